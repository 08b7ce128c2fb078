set_option maxHeartbeats 4000000 in
set_option maxRecDepth 100000 in
theorem JF_X0_guardAt {E : jx_E} (hB : ∀ o, o < 8 → jB E o) {o : Nat} (ho_o : o = 5 ∨ o = 7) {a1 : Int32} {a2 : Int32} {M : jx_M} {r : Int32} {M' : jx_M} (hF : F_X0_guardAt o a1 a2 M = some (r, M')) : jC E yX0_guardAt cX0_guardAt 3 (some FieldType.int) rm_X0_guardAt [.ref (ja E o 0), .int a1, .int a2] M (fun x M'' => x = some (.int r) ∧ M'' = M') := by
  have hc_o : jx_c o = 0 := by rcases ho_o with rfl | rfl <;> rfl
  have hb_o : jB E o := hB o (by omega)
  refine jC.ofJ (L := [(0, .ref (ja E o 0)), (1, .int a1), (2, .int a2)]) (by decide +kernel) (Nat.le_of_ble_eq_true rfl) rfl ?_
  unfold F_X0_guardAt at hF
  refine jr_aload_n 0 dX0_guardAt_0 rfl rfl rfl ?_
  refine gf_X0_22 rfl hc_o hb_o dX0_guardAt_1 rfl ?_
  refine jr_iload_n 2 dX0_guardAt_4 rfl rfl rfl ?_
  refine jr_iconst (v := 4) dX0_guardAt_5 (by decide) rfl ?_
  refine jr_imul dX0_guardAt_6 rfl ?_
  refine jr_iload_n 1 dX0_guardAt_7 rfl rfl rfl ?_
  refine jr_iadd dX0_guardAt_8 rfl ?_
  obtain ⟨hb_1, hF⟩ := jck_e hF
  refine jh_iald (ci := 0) (k := 4) hc_o hb_o (by decide) rfl rfl hb_1 dX0_guardAt_9 rfl ?_
  exact jh_iret rfl dX0_guardAt_10 hF
set_option maxHeartbeats 4000000 in
set_option maxRecDepth 100000 in
theorem JF_X0_stateAt {E : jx_E} (hB : ∀ o, o < 8 → jB E o) {o : Nat} (ho_o : o = 5 ∨ o = 7) {a1 : Int32} {a2 : Int32} {M : jx_M} {r : Int32} {M' : jx_M} (hF : F_X0_stateAt o a1 a2 M = some (r, M')) : jC E yX0_stateAt cX0_stateAt 3 (some FieldType.int) rm_X0_stateAt [.ref (ja E o 0), .int a1, .int a2] M (fun x M'' => x = some (.int r) ∧ M'' = M') := by
  have hc_o : jx_c o = 0 := by rcases ho_o with rfl | rfl <;> rfl
  have hb_o : jB E o := hB o (by omega)
  refine jC.ofJ (L := [(0, .ref (ja E o 0)), (1, .int a1), (2, .int a2)]) (by decide +kernel) (Nat.le_of_ble_eq_true rfl) rfl ?_
  unfold F_X0_stateAt at hF
  refine jr_aload_n 0 dX0_stateAt_0 rfl rfl rfl ?_
  refine gf_X0_28 rfl hc_o hb_o dX0_stateAt_1 rfl ?_
  refine jr_iload_n 2 dX0_stateAt_4 rfl rfl rfl ?_
  refine jr_bipush (v := 6) dX0_stateAt_5 (by decide) rfl ?_
  refine jr_imul dX0_stateAt_7 rfl ?_
  refine jr_iload_n 1 dX0_stateAt_8 rfl rfl rfl ?_
  refine jr_iadd dX0_stateAt_9 rfl ?_
  obtain ⟨hb_1, hF⟩ := jck_e hF
  refine jh_iald (ci := 0) (k := 6) hc_o hb_o (by decide) rfl rfl hb_1 dX0_stateAt_10 rfl ?_
  exact jh_iret rfl dX0_stateAt_11 hF
set_option maxHeartbeats 4000000 in
set_option maxRecDepth 100000 in
theorem JF_X0_agedAt {E : jx_E} (hB : ∀ o, o < 8 → jB E o) {o : Nat} (ho_o : o = 5 ∨ o = 7) {a1 : Int32} {a2 : Int32} {M : jx_M} {r : Int32} {M' : jx_M} (hF : F_X0_agedAt o a1 a2 M = some (r, M')) : jC E yX0_agedAt cX0_agedAt 3 (some FieldType.int) rm_X0_agedAt [.ref (ja E o 0), .int a1, .int a2] M (fun x M'' => x = some (.int r) ∧ M'' = M') := by
  have hc_o : jx_c o = 0 := by rcases ho_o with rfl | rfl <;> rfl
  have hb_o : jB E o := hB o (by omega)
  refine jC.ofJ (L := [(0, .ref (ja E o 0)), (1, .int a1), (2, .int a2)]) (by decide +kernel) (Nat.le_of_ble_eq_true rfl) rfl ?_
  unfold F_X0_agedAt at hF
  refine jr_aload_n 0 dX0_agedAt_0 rfl rfl rfl ?_
  refine gf_X0_31 rfl hc_o hb_o dX0_agedAt_1 rfl ?_
  refine jr_iload_n 2 dX0_agedAt_4 rfl rfl rfl ?_
  refine jr_bipush (v := 6) dX0_agedAt_5 (by decide) rfl ?_
  refine jr_imul dX0_agedAt_7 rfl ?_
  refine jr_iload_n 1 dX0_agedAt_8 rfl rfl rfl ?_
  refine jr_iadd dX0_agedAt_9 rfl ?_
  obtain ⟨hb_1, hF⟩ := jck_e hF
  refine jh_iald (ci := 0) (k := 7) hc_o hb_o (by decide) rfl rfl hb_1 dX0_agedAt_10 rfl ?_
  exact jh_iret rfl dX0_agedAt_11 hF
set_option maxHeartbeats 4000000 in
set_option maxRecDepth 100000 in
theorem JF_J6_bitCount_0f7a4 {E : jx_E} {a0 : Int32} {M : jx_M} {r : Int32} {M' : jx_M} (hF : F_J6_bitCount_0f7a4 a0 M = some (r, M')) : jC E yJ6_bitCount_0f7a4 cJ6_bitCount_0f7a4 1 (some FieldType.int) rm_J6_bitCount_0f7a4 [.int a0] M (fun x M'' => x = some (.int r) ∧ M'' = M') := by
  refine jC.ofJ (L := [(0, .int a0)]) (by decide +kernel) (Nat.le_of_ble_eq_true rfl) rfl ?_
  unfold F_J6_bitCount_0f7a4 at hF
  refine jr_iload_n 0 dJ6_bitCount_0f7a4_0 rfl rfl rfl ?_
  refine jr_iload_n 0 dJ6_bitCount_0f7a4_1 rfl rfl rfl ?_
  refine jr_iconst (v := 1) dJ6_bitCount_0f7a4_2 (by decide) rfl ?_
  refine jr_iushr dJ6_bitCount_0f7a4_3 rfl ?_
  refine jr_ldcw (v := 1431655765) dJ6_bitCount_0f7a4_4 (List.mem_cons_of_mem _ (lw_g_of 429 (by decide +kernel) (by decide +kernel))) rfl ?_
  refine jr_iand dJ6_bitCount_0f7a4_7 rfl ?_
  refine jr_isub dJ6_bitCount_0f7a4_8 rfl ?_
  refine jr_topi (fun x0_1 ex0_1 => ?_)
  have hF := jlet_e hF x0_1 ex0_1
  refine jr_istore_n (L' := [(0, .int x0_1)]) dJ6_bitCount_0f7a4_9 rfl (by decide) rfl rfl ?_
  refine jr_iload_n 0 dJ6_bitCount_0f7a4_10 rfl rfl rfl ?_
  refine jr_ldcw (v := 858993459) dJ6_bitCount_0f7a4_11 (List.mem_cons_of_mem _ (lw_g_of 430 (by decide +kernel) (by decide +kernel))) rfl ?_
  refine jr_iand dJ6_bitCount_0f7a4_14 rfl ?_
  refine jr_iload_n 0 dJ6_bitCount_0f7a4_15 rfl rfl rfl ?_
  refine jr_iconst (v := 2) dJ6_bitCount_0f7a4_16 (by decide) rfl ?_
  refine jr_iushr dJ6_bitCount_0f7a4_17 rfl ?_
  refine jr_ldcw (v := 858993459) dJ6_bitCount_0f7a4_18 (List.mem_cons_of_mem _ (lw_g_of 430 (by decide +kernel) (by decide +kernel))) rfl ?_
  refine jr_iand dJ6_bitCount_0f7a4_21 rfl ?_
  refine jr_iadd dJ6_bitCount_0f7a4_22 rfl ?_
  refine jr_topi (fun x0_2 ex0_2 => ?_)
  have hF := jlet_e hF x0_2 ex0_2
  refine jr_istore_n (L' := [(0, .int x0_2)]) dJ6_bitCount_0f7a4_23 rfl (by decide) rfl rfl ?_
  refine jr_iload_n 0 dJ6_bitCount_0f7a4_24 rfl rfl rfl ?_
  refine jr_iload_n 0 dJ6_bitCount_0f7a4_25 rfl rfl rfl ?_
  refine jr_iconst (v := 4) dJ6_bitCount_0f7a4_26 (by decide) rfl ?_
  refine jr_iushr dJ6_bitCount_0f7a4_27 rfl ?_
  refine jr_iadd dJ6_bitCount_0f7a4_28 rfl ?_
  refine jr_ldcw (v := 252645135) dJ6_bitCount_0f7a4_29 (List.mem_cons_of_mem _ (lw_g_of 431 (by decide +kernel) (by decide +kernel))) rfl ?_
  refine jr_iand dJ6_bitCount_0f7a4_32 rfl ?_
  refine jr_topi (fun x0_3 ex0_3 => ?_)
  have hF := jlet_e hF x0_3 ex0_3
  refine jr_istore_n (L' := [(0, .int x0_3)]) dJ6_bitCount_0f7a4_33 rfl (by decide) rfl rfl ?_
  refine jr_iload_n 0 dJ6_bitCount_0f7a4_34 rfl rfl rfl ?_
  refine jr_iload_n 0 dJ6_bitCount_0f7a4_35 rfl rfl rfl ?_
  refine jr_bipush (v := 8) dJ6_bitCount_0f7a4_36 (by decide) rfl ?_
  refine jr_iushr dJ6_bitCount_0f7a4_38 rfl ?_
  refine jr_iadd dJ6_bitCount_0f7a4_39 rfl ?_
  refine jr_topi (fun x0_4 ex0_4 => ?_)
  have hF := jlet_e hF x0_4 ex0_4
  refine jr_istore_n (L' := [(0, .int x0_4)]) dJ6_bitCount_0f7a4_40 rfl (by decide) rfl rfl ?_
  refine jr_iload_n 0 dJ6_bitCount_0f7a4_41 rfl rfl rfl ?_
  refine jr_iload_n 0 dJ6_bitCount_0f7a4_42 rfl rfl rfl ?_
  refine jr_bipush (v := 16) dJ6_bitCount_0f7a4_43 (by decide) rfl ?_
  refine jr_iushr dJ6_bitCount_0f7a4_45 rfl ?_
  refine jr_iadd dJ6_bitCount_0f7a4_46 rfl ?_
  refine jr_topi (fun x0_5 ex0_5 => ?_)
  have hF := jlet_e hF x0_5 ex0_5
  refine jr_istore_n (L' := [(0, .int x0_5)]) dJ6_bitCount_0f7a4_47 rfl (by decide) rfl rfl ?_
  refine jr_iload_n 0 dJ6_bitCount_0f7a4_48 rfl rfl rfl ?_
  refine jr_bipush (v := 63) dJ6_bitCount_0f7a4_49 (by decide) rfl ?_
  refine jr_iand dJ6_bitCount_0f7a4_51 rfl ?_
  exact jh_iret rfl dJ6_bitCount_0f7a4_52 hF
set_option maxHeartbeats 4000000 in
set_option maxRecDepth 100000 in
theorem JL_X0_missedBy_4 {E : jx_E} (hB : ∀ o, o < 8 → jB E o) {o : Nat} (ho_o : o = 5 ∨ o = 7) {y1 : Int32} {k : Int32 → jx_M → Option (Int32 × jx_M)} {r : Int32} {M' : jx_M} (hk : ∀ (z2 : Int32) (M : jx_M), k z2 M = some (r, M') → jJ E yX0_missedBy cX0_missedBy 4 (some FieldType.int) rm_X0_missedBy (fun x M'' => x = some (.int r) ∧ M'' = M') 27 [(2, .int z2)] [] M) : ∀ (n : Nat) (z2 : Int32) (z3 : Int32) (M : jx_M), L_X0_missedBy_4 o y1 k n z2 z3 M = some (r, M') → jJ E yX0_missedBy cX0_missedBy 4 (some FieldType.int) rm_X0_missedBy (fun x M'' => x = some (.int r) ∧ M'' = M') 4 [(0, .ref (ja E o 0)), (1, .int y1), (2, .int z2), (3, .int z3)] [] M := by
  have hc_o : jx_c o = 0 := by rcases ho_o with rfl | rfl <;> rfl
  have hb_o : jB E o := hB o (by omega)
  intro n
  induction n with
  | zero => intro z2 z3 M hF; exact nomatch (show (none : Option (Int32 × jx_M)) = some _ from hF)
  | succ n ih =>
    intro z2 z3 M hF
    rw [L_X0_missedBy_4.eq_2] at hF
    refine jr_iload_n 3 dX0_missedBy_4 rfl rfl rfl ?_
    refine jr_iload_n 1 dX0_missedBy_5 rfl rfl rfl ?_
    refine jr_icmp_gt 27 dX0_missedBy_6 (by decide) rfl (fun c1 => ?_) (fun c1 => ?_)
    · have hF := jif_p hF c1
      refine jr_sub [2] rfl ?_
      exact hk z2 M hF
    · have hF := jif_n hF c1
      refine jr_iload_n 2 dX0_missedBy_9 rfl rfl rfl ?_
      refine jr_aload_n 0 dX0_missedBy_10 rfl rfl rfl ?_
      refine gf_X0_9 rfl hc_o hb_o dX0_missedBy_11 rfl ?_
      refine jr_iload_n 3 dX0_missedBy_14 rfl rfl rfl ?_
      obtain ⟨hb_1, hF⟩ := jck_e hF
      refine jh_iald (ci := 0) (k := 0) hc_o hb_o (by decide) rfl rfl hb_1 dX0_missedBy_15 rfl ?_
      obtain ⟨r_1, M_1, hc_1, hF⟩ := jbd_e hF
      refine jh_callS1 (v := .int r_1) (as := [.int (jx_r M o 0 z3)]) (st := [.int z2]) (JF_J6_bitCount_0f7a4  hc_1) cw_X0_56 (iv_J6_bitCount_0f7a4) ⟨rfl, rfl, by decide, by decide⟩ rfl rfl (Nat.le_of_ble_eq_true rfl) dX0_missedBy_16 rfl ?_
      refine jr_iadd dX0_missedBy_19 rfl ?_
      refine jr_topi (fun x2_1 ex2_1 => ?_)
      have hF := jlet_e hF x2_1 ex2_1
      refine jr_istore_n (L' := [(2, .int x2_1), (0, .ref (ja E o 0)), (1, .int y1), (3, .int z3)]) dX0_missedBy_20 rfl (by decide) rfl rfl ?_
      obtain ⟨x3_1, ex3_1⟩ : ∃ z : Int32, z = z3 + 1 := ⟨_, rfl⟩
      have hF := jlet_e hF x3_1 ex3_1
      refine jr_iinc (v := x3_1) (L' := [(3, .int x3_1), (2, .int x2_1), (0, .ref (ja E o 0)), (1, .int y1)]) 3 dX0_missedBy_21 rfl (by rw [ex3_1]; rfl) (by decide) rfl rfl ?_
      refine jr_goto 4 dX0_missedBy_24 (by decide) ?_
      refine jr_sub [2, 3, 1, 0] rfl ?_
      exact ih x2_1 x3_1 M_1 hF
set_option maxHeartbeats 4000000 in
set_option maxRecDepth 100000 in
theorem JF_X0_missedBy {E : jx_E} (hB : ∀ o, o < 8 → jB E o) {o : Nat} (ho_o : o = 5 ∨ o = 7) {a1 : Int32} {M : jx_M} {r : Int32} {M' : jx_M} (hF : F_X0_missedBy o a1 M = some (r, M')) : jC E yX0_missedBy cX0_missedBy 4 (some FieldType.int) rm_X0_missedBy [.ref (ja E o 0), .int a1] M (fun x M'' => x = some (.int r) ∧ M'' = M') := by
  have hc_o : jx_c o = 0 := by rcases ho_o with rfl | rfl <;> rfl
  have hb_o : jB E o := hB o (by omega)
  refine jC.ofJ (L := [(0, .ref (ja E o 0)), (1, .int a1)]) (by decide +kernel) (Nat.le_of_ble_eq_true rfl) rfl ?_
  unfold F_X0_missedBy at hF
  refine jr_iconst (v := 0) dX0_missedBy_0 (by decide) rfl ?_
  refine jr_istore_n (L' := [(2, .int 0), (0, .ref (ja E o 0)), (1, .int a1)]) dX0_missedBy_1 rfl (by decide) rfl rfl ?_
  refine jr_iconst (v := 0) dX0_missedBy_2 (by decide) rfl ?_
  refine jr_istore_n (L' := [(3, .int 0), (2, .int 0), (0, .ref (ja E o 0)), (1, .int a1)]) dX0_missedBy_3 rfl (by decide) rfl rfl ?_
  refine jr_sub [2, 3, 1, 0] rfl ?_
  refine JL_X0_missedBy_4 hB ho_o (fun x2_2 M_2 hF => ?_) jfu 0 0 M hF
  refine jr_iload_n 0 dX0_missedBy_27 rfl rfl rfl ?_
  exact jh_iret rfl dX0_missedBy_28 hF
set_option maxHeartbeats 4000000 in
set_option maxRecDepth 100000 in
theorem JF_X0_wouldTurn {E : jx_E} (hB : ∀ o, o < 8 → jB E o) {o : Nat} (ho_o : o = 5 ∨ o = 7) {a1 : Int32} {a2 : Int32} {a3 : Int32} {M : jx_M} {r : Int32} {M' : jx_M} (hF : F_X0_wouldTurn o a1 a2 a3 M = some (r, M')) : jC E yX0_wouldTurn cX0_wouldTurn 5 (some FieldType.boolean) rm_X0_wouldTurn [.ref (ja E o 0), .int a1, .int a2, .int a3] M (fun x M'' => x = some (.int r) ∧ M'' = M') := by
  have hc_o : jx_c o = 0 := by rcases ho_o with rfl | rfl <;> rfl
  have hb_o : jB E o := hB o (by omega)
  refine jC.ofJ (L := [(0, .ref (ja E o 0)), (1, .int a1), (2, .int a2), (3, .int a3)]) (by decide +kernel) (Nat.le_of_ble_eq_true rfl) rfl ?_
  unfold F_X0_wouldTurn at hF
  refine jr_iload_n 3 dX0_wouldTurn_0 rfl rfl rfl ?_
  refine jr_iconst (v := 4) dX0_wouldTurn_1 (by decide) rfl ?_
  refine jr_imul dX0_wouldTurn_2 rfl ?_
  refine jr_iload_n 1 dX0_wouldTurn_3 rfl rfl rfl ?_
  refine jr_iadd dX0_wouldTurn_4 rfl ?_
  refine jr_topi (fun x4_1 ex4_1 => ?_)
  have hF := jlet_e hF x4_1 ex4_1
  refine jr_istore (L' := [(4, .int x4_1), (0, .ref (ja E o 0)), (1, .int a1), (2, .int a2), (3, .int a3)]) dX0_wouldTurn_5 (by decide) rfl rfl ?_
  refine jr_aload_n 1 dX0_wouldTurn_7 rfl rfl rfl ?_
  refine gf_X0_25 rfl hc_o hb_o dX0_wouldTurn_8 rfl ?_
  refine jr_iload 0 dX0_wouldTurn_11 rfl rfl ?_
  obtain ⟨hb_1, hF⟩ := jck_e hF
  refine jh_iald (ci := 0) (k := 5) hc_o hb_o (by decide) rfl rfl hb_1 dX0_wouldTurn_13 rfl ?_
  refine jr_iload_n 3 dX0_wouldTurn_14 rfl rfl rfl ?_
  refine jr_ishr dX0_wouldTurn_15 rfl ?_
  refine jr_iconst (v := 1) dX0_wouldTurn_16 (by decide) rfl ?_
  refine jr_iand dX0_wouldTurn_17 rfl ?_
  refine jr_if_eq 36 dX0_wouldTurn_18 (by decide) rfl (fun c1 => ?_) (fun c1 => ?_)
  · have hF := jif_p hF c1
    refine jr_iconst (v := 0) dX0_wouldTurn_36 (by decide) rfl ?_
    exact jh_zret rfl (Or.inl rfl) dX0_wouldTurn_37 hF
  · have hF := jif_n hF c1
    refine jr_aload_n 1 dX0_wouldTurn_21 rfl rfl rfl ?_
    refine gf_X0_22 rfl hc_o hb_o dX0_wouldTurn_22 rfl ?_
    refine jr_iload 0 dX0_wouldTurn_25 rfl rfl ?_
    obtain ⟨hb_2, hF⟩ := jck_e hF
    refine jh_iald (ci := 0) (k := 4) hc_o hb_o (by decide) rfl rfl hb_2 dX0_wouldTurn_27 rfl ?_
    refine jr_iload_n 3 dX0_wouldTurn_28 rfl rfl rfl ?_
    refine jr_icmp_eq 36 dX0_wouldTurn_29 (by decide) rfl (fun c1 => ?_) (fun c1 => ?_)
    · have hF := jif_p hF c1
      refine jr_iconst (v := 0) dX0_wouldTurn_36 (by decide) rfl ?_
      exact jh_zret rfl (Or.inl rfl) dX0_wouldTurn_37 hF
    · have hF := jif_n hF c1
      refine jr_iconst (v := 1) dX0_wouldTurn_32 (by decide) rfl ?_
      refine jr_goto 37 dX0_wouldTurn_33 (by decide) ?_
      exact jh_zret rfl (Or.inr rfl) dX0_wouldTurn_37 hF
set_option maxHeartbeats 4000000 in
set_option maxRecDepth 100000 in
theorem JL_J7_fill_53178_5 {E : jx_E} {o q N ci : Nat} (hoc : jx_c o = ci) (hbo : jB E o) (hq : q < jx_n ci) (hq1 : jx_k ci q = 1) (hN : jx_l ci q = N) {y1 : Int32} {y3 : Int32} {k : jx_M → Option (Unit × jx_M)} {r : Unit} {M' : jx_M} (hk : ∀ (M : jx_M), k M = some (r, M') → jJ E yJ7_fill_53178 cJ7_fill_53178 4 none rm_J7_fill_53178 (fun x M'' => x = none ∧ M'' = M') 20 [] [] M) : ∀ (n : Nat) (z2 : Int32) (M : jx_M), L_J7_fill_53178_5 o q N y1 y3 k n z2 M = some (r, M') → jJ E yJ7_fill_53178 cJ7_fill_53178 4 none rm_J7_fill_53178 (fun x M'' => x = none ∧ M'' = M') 5 [(0, .ref (ja E o (q + 1))), (1, .int y1), (2, .int z2), (3, .int y3)] [] M := by
  intro n
  induction n with
  | zero => intro z2 M hF; exact nomatch (show (none : Option (Unit × jx_M)) = some _ from hF)
  | succ n ih =>
    intro z2 M hF
    rw [L_J7_fill_53178_5.eq_2] at hF
    refine jr_iload_n 2 dJ7_fill_53178_5 rfl rfl rfl ?_
    refine jr_iload_n 3 dJ7_fill_53178_6 rfl rfl rfl ?_
    refine jr_icmp_ge 20 dJ7_fill_53178_7 (by decide) rfl (fun c1 => ?_) (fun c1 => ?_)
    · have hF := jif_p hF c1
      refine jr_sub [] rfl ?_
      exact hk M hF
    · have hF := jif_n hF c1
      refine jr_aload_n 0 dJ7_fill_53178_10 rfl rfl rfl ?_
      refine jr_iload_n 2 dJ7_fill_53178_11 rfl rfl rfl ?_
      refine jr_iload_n 1 dJ7_fill_53178_12 rfl rfl rfl ?_
      obtain ⟨hb_1, hF⟩ := jck_e hF
      refine jh_iast (k := q) hoc hbo hq hq1 hN hb_1 dJ7_fill_53178_13 rfl (fun M_1 eM_1 => ?_)
      have hF := jlet_e hF M_1 eM_1
      obtain ⟨x2_1, ex2_1⟩ : ∃ z : Int32, z = z2 + 1 := ⟨_, rfl⟩
      have hF := jlet_e hF x2_1 ex2_1
      refine jr_iinc (v := x2_1) (L' := [(2, .int x2_1), (0, .ref (ja E o (q + 1))), (1, .int y1), (3, .int y3)]) 2 dJ7_fill_53178_14 rfl (by rw [ex2_1]; rfl) (by decide) rfl rfl ?_
      refine jr_goto 5 dJ7_fill_53178_17 (by decide) ?_
      refine jr_sub [1, 2, 0, 3] rfl ?_
      exact ih x2_1 M_1 hF
set_option maxHeartbeats 4000000 in
set_option maxRecDepth 100000 in
theorem JF_J7_fill_53178 {E : jx_E} {o q N ci : Nat} (hoc : jx_c o = ci) (hbo : jB E o) (hq : q < jx_n ci) (hq1 : jx_k ci q = 1) (hN : jx_l ci q = N) {a1 : Int32} {M : jx_M} {r : Unit} {M' : jx_M} (hF : F_J7_fill_53178 o q N a1 M = some (r, M')) : jC E yJ7_fill_53178 cJ7_fill_53178 4 none rm_J7_fill_53178 [.ref (ja E o (q + 1)), .int a1] M (fun x M'' => x = none ∧ M'' = M') := by
  refine jC.ofJ (L := [(0, .ref (ja E o (q + 1))), (1, .int a1)]) (by decide +kernel) (Nat.le_of_ble_eq_true rfl) rfl ?_
  unfold F_J7_fill_53178 at hF
  refine jr_iconst (v := 0) dJ7_fill_53178_0 (by decide) rfl ?_
  refine jr_istore_n (L' := [(2, .int 0), (0, .ref (ja E o (q + 1))), (1, .int a1)]) dJ7_fill_53178_1 rfl (by decide) rfl rfl ?_
  refine jr_aload_n 1 dJ7_fill_53178_2 rfl rfl rfl ?_
  refine jh_alen (v := nI N) (k := q) hoc hbo hq hq1 hN rfl dJ7_fill_53178_3 rfl ?_
  refine jr_topi (fun x3_1 ex3_1 => ?_)
  have hF := jlet_e hF x3_1 ex3_1
  refine jr_istore_n (L' := [(3, .int x3_1), (2, .int 0), (0, .ref (ja E o (q + 1))), (1, .int a1)]) dJ7_fill_53178_4 rfl (by decide) rfl rfl ?_
  refine jr_sub [2, 3, 1, 0] rfl ?_
  refine JL_J7_fill_53178_5 hoc hbo hq hq1 hN (fun M_2 hF => ?_) jfu 0 M hF
  exact jh_vret rfl dJ7_fill_53178_20 hF
set_option maxHeartbeats 4000000 in
set_option maxRecDepth 100000 in
theorem JL_X0_wakeAndBear_5 {E : jx_E} (hB : ∀ o, o < 8 → jB E o) {o : Nat} (ho_o : o = 5 ∨ o = 7) {y1 : Int32} {y2 : Int32} {k : Int32 → jx_M → Option (Unit × jx_M)} {r : Unit} {M' : jx_M} (hk : ∀ (z3 : Int32) (M : jx_M), k z3 M = some (r, M') → jJ E yX0_wakeAndBear cX0_wakeAndBear 5 none rm_X0_wakeAndBear (fun x M'' => x = none ∧ M'' = M') 67 [(0, .ref (ja E o 0)), (1, .int y1), (2, .int y2), (3, .int z3)] [] M) : ∀ (n : Nat) (z3 : Int32) (z4 : Int32) (M : jx_M), L_X0_wakeAndBear_5 o y1 y2 k n z3 z4 M = some (r, M') → jJ E yX0_wakeAndBear cX0_wakeAndBear 5 none rm_X0_wakeAndBear (fun x M'' => x = none ∧ M'' = M') 5 [(0, .ref (ja E o 0)), (1, .int y1), (2, .int y2), (3, .int z3), (4, .int z4)] [] M := by
  have hc_o : jx_c o = 0 := by rcases ho_o with rfl | rfl <;> rfl
  have hb_o : jB E o := hB o (by omega)
  intro n
  induction n with
  | zero => intro z3 z4 M hF; exact nomatch (show (none : Option (Unit × jx_M)) = some _ from hF)
  | succ n ih =>
    intro z3 z4 M hF
    rw [L_X0_wakeAndBear_5.eq_2] at hF
    refine jr_iload 4 dX0_wakeAndBear_5 rfl rfl ?_
    refine jr_aload_n 0 dX0_wakeAndBear_7 rfl rfl rfl ?_
    refine gf_X0_43 rfl hc_o hb_o dX0_wakeAndBear_8 rfl ?_
    refine gf_X0_85 rfl rfl (hB 2 (by decide)) dX0_wakeAndBear_11 rfl ?_
    refine jr_icmp_ge 67 dX0_wakeAndBear_14 (by decide) rfl (fun c1 => ?_) (fun c1 => ?_)
    · have hF := jif_p hF c1
      refine jr_sub [0, 1, 2, 3] rfl ?_
      exact hk z3 M hF
    · have hF := jif_n hF c1
      refine jr_aload_n 0 dX0_wakeAndBear_17 rfl rfl rfl ?_
      refine gf_X0_34 rfl hc_o hb_o dX0_wakeAndBear_18 rfl ?_
      refine jr_iload 4 dX0_wakeAndBear_21 rfl rfl ?_
      obtain ⟨hb_1, hF⟩ := jck_e hF
      refine jh_iald (ci := 0) (k := 8) hc_o hb_o (by decide) rfl rfl hb_1 dX0_wakeAndBear_23 rfl ?_
      refine jr_bipush (v := (-9)) dX0_wakeAndBear_24 (by decide) rfl ?_
      refine jr_icmp_eq 61 dX0_wakeAndBear_26 (by decide) rfl (fun c1 => ?_) (fun c1 => ?_)
      · have hF := jif_p hF c1
        obtain ⟨x4_1, ex4_1⟩ : ∃ z : Int32, z = z4 + 1 := ⟨_, rfl⟩
        have hF := jlet_e hF x4_1 ex4_1
        refine jr_iinc (v := x4_1) (L' := [(4, .int x4_1), (0, .ref (ja E o 0)), (1, .int y1), (2, .int y2), (3, .int z3)]) 4 dX0_wakeAndBear_61 rfl (by rw [ex4_1]; rfl) (by decide) rfl rfl ?_
        refine jr_goto 5 dX0_wakeAndBear_64 (by decide) ?_
        refine jr_sub [1, 2, 3, 4, 0] rfl ?_
        exact ih z3 x4_1 M hF
      · have hF := jif_n hF c1
        refine jr_aload_n 0 dX0_wakeAndBear_29 rfl rfl rfl ?_
        refine gf_X0_37 rfl hc_o hb_o dX0_wakeAndBear_30 rfl ?_
        refine jr_iload 4 dX0_wakeAndBear_33 rfl rfl ?_
        obtain ⟨hb_2, hF⟩ := jck_e hF
        refine jh_iald (ci := 0) (k := 9) hc_o hb_o (by decide) rfl rfl hb_2 dX0_wakeAndBear_35 rfl ?_
        refine jr_iload_n 1 dX0_wakeAndBear_36 rfl rfl rfl ?_
        refine jr_icmp_gt 61 dX0_wakeAndBear_37 (by decide) rfl (fun c1 => ?_) (fun c1 => ?_)
        · have hF := jif_p hF c1
          obtain ⟨x4_2, ex4_2⟩ : ∃ z : Int32, z = z4 + 1 := ⟨_, rfl⟩
          have hF := jlet_e hF x4_2 ex4_2
          refine jr_iinc (v := x4_2) (L' := [(4, .int x4_2), (0, .ref (ja E o 0)), (1, .int y1), (2, .int y2), (3, .int z3)]) 4 dX0_wakeAndBear_61 rfl (by rw [ex4_2]; rfl) (by decide) rfl rfl ?_
          refine jr_goto 5 dX0_wakeAndBear_64 (by decide) ?_
          refine jr_sub [1, 2, 3, 4, 0] rfl ?_
          exact ih z3 x4_2 M hF
        · have hF := jif_n hF c1
          refine jr_iload_n 3 dX0_wakeAndBear_40 rfl rfl rfl ?_
          refine jr_iconst (v := 1) dX0_wakeAndBear_41 (by decide) rfl ?_
          refine jr_aload_n 0 dX0_wakeAndBear_42 rfl rfl rfl ?_
          refine gf_X0_34 rfl hc_o hb_o dX0_wakeAndBear_43 rfl ?_
          refine jr_iload 4 dX0_wakeAndBear_46 rfl rfl ?_
          obtain ⟨hb_3, hF⟩ := jck_e hF
          refine jh_iald (ci := 0) (k := 8) hc_o hb_o (by decide) rfl rfl hb_3 dX0_wakeAndBear_48 rfl ?_
          refine jr_ishl dX0_wakeAndBear_49 rfl ?_
          refine jr_ior dX0_wakeAndBear_50 rfl ?_
          refine jr_topi (fun x3_1 ex3_1 => ?_)
          have hF := jlet_e hF x3_1 ex3_1
          refine jr_istore_n (L' := [(3, .int x3_1), (0, .ref (ja E o 0)), (1, .int y1), (2, .int y2), (4, .int z4)]) dX0_wakeAndBear_51 rfl (by decide) rfl rfl ?_
          refine jr_aload_n 1 dX0_wakeAndBear_52 rfl rfl rfl ?_
          refine gf_X0_34 rfl hc_o hb_o dX0_wakeAndBear_53 rfl ?_
          refine jr_iload 4 dX0_wakeAndBear_56 rfl rfl ?_
          refine jr_bipush (v := (-9)) dX0_wakeAndBear_58 (by decide) rfl ?_
          obtain ⟨hb_4, hF⟩ := jck_e hF
          refine jh_iast (ci := 0) (k := 8) hc_o hb_o (by decide) rfl rfl hb_4 dX0_wakeAndBear_60 rfl (fun M_1 eM_1 => ?_)
          have hF := jlet_e hF M_1 eM_1
          obtain ⟨x4_3, ex4_3⟩ : ∃ z : Int32, z = z4 + 1 := ⟨_, rfl⟩
          have hF := jlet_e hF x4_3 ex4_3
          refine jr_iinc (v := x4_3) (L' := [(4, .int x4_3), (3, .int x3_1), (0, .ref (ja E o 0)), (1, .int y1), (2, .int y2)]) 4 dX0_wakeAndBear_61 rfl (by rw [ex4_3]; rfl) (by decide) rfl rfl ?_
          refine jr_goto 5 dX0_wakeAndBear_64 (by decide) ?_
          refine jr_sub [2, 3, 4, 1, 0] rfl ?_
          exact ih x3_1 x4_3 M_1 hF
set_option maxHeartbeats 4000000 in
set_option maxRecDepth 100000 in
theorem JL_X0_wakeAndBear_70 {E : jx_E} (hB : ∀ o, o < 8 → jB E o) {o : Nat} (ho_o : o = 5 ∨ o = 7) {y1 : Int32} {y2 : Int32} {y3 : Int32} {k : jx_M → Option (Unit × jx_M)} {r : Unit} {M' : jx_M} (hk : ∀ (M : jx_M), k M = some (r, M') → jJ E yX0_wakeAndBear cX0_wakeAndBear 5 none rm_X0_wakeAndBear (fun x M'' => x = none ∧ M'' = M') 115 [(0, .ref (ja E o 0)), (2, .int y2), (3, .int y3)] [] M) : ∀ (n : Nat) (z4 : Int32) (M : jx_M), L_X0_wakeAndBear_70 o y1 y2 y3 k n z4 M = some (r, M') → jJ E yX0_wakeAndBear cX0_wakeAndBear 5 none rm_X0_wakeAndBear (fun x M'' => x = none ∧ M'' = M') 70 [(0, .ref (ja E o 0)), (1, .int y1), (2, .int y2), (3, .int y3), (4, .int z4)] [] M := by
  have hc_o : jx_c o = 0 := by rcases ho_o with rfl | rfl <;> rfl
  have hb_o : jB E o := hB o (by omega)
  intro n
  induction n with
  | zero => intro z4 M hF; exact nomatch (show (none : Option (Unit × jx_M)) = some _ from hF)
  | succ n ih =>
    intro z4 M hF
    rw [L_X0_wakeAndBear_70.eq_2] at hF
    refine jr_iload 4 dX0_wakeAndBear_70 rfl rfl ?_
    refine jr_aload_n 0 dX0_wakeAndBear_72 rfl rfl rfl ?_
    refine gf_X0_43 rfl hc_o hb_o dX0_wakeAndBear_73 rfl ?_
    refine gf_X0_90 rfl rfl (hB 2 (by decide)) dX0_wakeAndBear_76 rfl ?_
    refine jr_icmp_ge 115 dX0_wakeAndBear_79 (by decide) rfl (fun c1 => ?_) (fun c1 => ?_)
    · have hF := jif_p hF c1
      refine jr_sub [0, 2, 3] rfl ?_
      exact hk M hF
    · have hF := jif_n hF c1
      refine jr_aload_n 0 dX0_wakeAndBear_82 rfl rfl rfl ?_
      refine gf_X0_43 rfl hc_o hb_o dX0_wakeAndBear_83 rfl ?_
      refine gf_X0_93 rfl rfl (hB 2 (by decide)) dX0_wakeAndBear_86 rfl ?_
      refine jr_iload 4 dX0_wakeAndBear_89 rfl rfl ?_
      obtain ⟨hb_5, hF⟩ := jck_e hF
      refine jh_iald (ci := 1) (k := 4) rfl (hB 2 (by decide)) (by decide) rfl rfl hb_5 dX0_wakeAndBear_91 rfl ?_
      refine jr_iload_n 1 dX0_wakeAndBear_92 rfl rfl rfl ?_
      refine jr_icmp_ne 109 dX0_wakeAndBear_93 (by decide) rfl (fun c1 => ?_) (fun c1 => ?_)
      · have hF := jif_n hF c1
        obtain ⟨x4_4, ex4_4⟩ : ∃ z : Int32, z = z4 + 1 := ⟨_, rfl⟩
        have hF := jlet_e hF x4_4 ex4_4
        refine jr_iinc (v := x4_4) (L' := [(4, .int x4_4), (0, .ref (ja E o 0)), (1, .int y1), (2, .int y2), (3, .int y3)]) 4 dX0_wakeAndBear_109 rfl (by rw [ex4_4]; rfl) (by decide) rfl rfl ?_
        refine jr_goto 70 dX0_wakeAndBear_112 (by decide) ?_
        refine jr_sub [1, 2, 3, 4, 0] rfl ?_
        exact ih x4_4 M hF
      · have hF := jif_p hF c1
        refine jr_aload_n 0 dX0_wakeAndBear_96 rfl rfl rfl ?_
        refine jr_dup dX0_wakeAndBear_97 rfl rfl ?_
        refine gf_X0_47 rfl hc_o hb_o dX0_wakeAndBear_98 rfl ?_
        refine jr_iconst (v := 1) dX0_wakeAndBear_101 (by decide) rfl ?_
        refine jr_iload 4 dX0_wakeAndBear_102 rfl rfl ?_
        refine jr_ishl dX0_wakeAndBear_104 rfl ?_
        refine jr_ior dX0_wakeAndBear_105 rfl ?_
        refine pf_X0_47 rfl hc_o hb_o dX0_wakeAndBear_106 ⟨rfl, rfl⟩ rfl (fun M_3 eM_3 => ?_)
        have hF := jlet_e hF M_3 eM_3
        obtain ⟨x4_5, ex4_5⟩ : ∃ z : Int32, z = z4 + 1 := ⟨_, rfl⟩
        have hF := jlet_e hF x4_5 ex4_5
        refine jr_iinc (v := x4_5) (L' := [(4, .int x4_5), (0, .ref (ja E o 0)), (1, .int y1), (2, .int y2), (3, .int y3)]) 4 dX0_wakeAndBear_109 rfl (by rw [ex4_5]; rfl) (by decide) rfl rfl ?_
        refine jr_goto 70 dX0_wakeAndBear_112 (by decide) ?_
        refine jr_sub [1, 2, 3, 4, 0] rfl ?_
        exact ih x4_5 M_3 hF
set_option maxHeartbeats 4000000 in
set_option maxRecDepth 100000 in
theorem JF_X0_wakeAndBear {E : jx_E} (hB : ∀ o, o < 8 → jB E o) {o : Nat} (ho_o : o = 5 ∨ o = 7) {a1 : Int32} {a2 : Int32} {M : jx_M} {r : Unit} {M' : jx_M} (hF : F_X0_wakeAndBear o a1 a2 M = some (r, M')) : jC E yX0_wakeAndBear cX0_wakeAndBear 5 none rm_X0_wakeAndBear [.ref (ja E o 0), .int a1, .int a2] M (fun x M'' => x = none ∧ M'' = M') := by
  have hc_o : jx_c o = 0 := by rcases ho_o with rfl | rfl <;> rfl
  have hb_o : jB E o := hB o (by omega)
  refine jC.ofJ (L := [(0, .ref (ja E o 0)), (1, .int a1), (2, .int a2)]) (by decide +kernel) (Nat.le_of_ble_eq_true rfl) rfl ?_
  unfold F_X0_wakeAndBear at hF
  refine jr_iconst (v := 0) dX0_wakeAndBear_0 (by decide) rfl ?_
  refine jr_istore_n (L' := [(3, .int 0), (0, .ref (ja E o 0)), (1, .int a1), (2, .int a2)]) dX0_wakeAndBear_1 rfl (by decide) rfl rfl ?_
  refine jr_iconst (v := 0) dX0_wakeAndBear_2 (by decide) rfl ?_
  refine jr_istore (L' := [(4, .int 0), (3, .int 0), (0, .ref (ja E o 0)), (1, .int a1), (2, .int a2)]) dX0_wakeAndBear_3 (by decide) rfl rfl ?_
  refine jr_sub [2, 3, 4, 1, 0] rfl ?_
  refine JL_X0_wakeAndBear_5 hB ho_o (fun x3_2 M_2 hF => ?_) jfu 0 0 M hF
  refine jr_iconst (v := 0) dX0_wakeAndBear_67 (by decide) rfl ?_
  refine jr_istore (L' := [(4, .int 0), (0, .ref (ja E o 0)), (1, .int a1), (2, .int a2), (3, .int x3_2)]) dX0_wakeAndBear_68 (by decide) rfl rfl ?_
  refine jr_sub [1, 2, 3, 4, 0] rfl ?_
  refine JL_X0_wakeAndBear_70 hB ho_o (fun M_4 hF => ?_) jfu 0 M_2 hF
  refine jr_aload_n 0 dX0_wakeAndBear_115 rfl rfl rfl ?_
  refine jr_aload_n 0 dX0_wakeAndBear_116 rfl rfl rfl ?_
  refine gf_X0_47 rfl hc_o hb_o dX0_wakeAndBear_117 rfl ?_
  refine jr_iload_n 1 dX0_wakeAndBear_120 rfl rfl rfl ?_
  refine jr_iconst (v := (-1)) dX0_wakeAndBear_121 (by decide) rfl ?_
  refine jr_ixor dX0_wakeAndBear_122 rfl ?_
  refine jr_iand dX0_wakeAndBear_123 rfl ?_
  refine pf_X0_53 rfl hc_o hb_o dX0_wakeAndBear_124 ⟨rfl, rfl⟩ rfl (fun M_5 eM_5 => ?_)
  have hF := jlet_e hF M_5 eM_5
  refine jr_aload_n 0 dX0_wakeAndBear_127 rfl rfl rfl ?_
  refine jr_dup dX0_wakeAndBear_128 rfl rfl ?_
  refine gf_X0_47 rfl hc_o hb_o dX0_wakeAndBear_129 rfl ?_
  refine jr_iload_n 2 dX0_wakeAndBear_132 rfl rfl rfl ?_
  refine jr_ior dX0_wakeAndBear_133 rfl ?_
  refine pf_X0_47 rfl hc_o hb_o dX0_wakeAndBear_134 ⟨rfl, rfl⟩ rfl (fun M_6 eM_6 => ?_)
  have hF := jlet_e hF M_6 eM_6
  refine jr_aload_n 0 dX0_wakeAndBear_137 rfl rfl rfl ?_
  refine jr_dup dX0_wakeAndBear_138 rfl rfl ?_
  refine gf_X0_50 rfl hc_o hb_o dX0_wakeAndBear_139 rfl ?_
  refine jr_iload_n 2 dX0_wakeAndBear_142 rfl rfl rfl ?_
  refine jr_iconst (v := (-1)) dX0_wakeAndBear_143 (by decide) rfl ?_
  refine jr_ixor dX0_wakeAndBear_144 rfl ?_
  refine jr_iand dX0_wakeAndBear_145 rfl ?_
  refine pf_X0_50 rfl hc_o hb_o dX0_wakeAndBear_146 ⟨rfl, rfl⟩ rfl (fun M_7 eM_7 => ?_)
  have hF := jlet_e hF M_7 eM_7
  exact jh_vret rfl dX0_wakeAndBear_149 hF
set_option maxHeartbeats 4000000 in
set_option maxRecDepth 100000 in
theorem JL_X2_willedOf_3 {E : jx_E} (hB : ∀ o, o < 8 → jB E o) {o : Nat} (ho_o : o = 3 ∨ o = 6) {y1 : Int32} {y2 : Int32} {y3 : Int32} {k : jx_M → Option (Int32 × jx_M)} {r : Int32} {M' : jx_M} (hk : ∀ (M : jx_M), k M = some (r, M') → jJ E yX2_willedOf cX2_willedOf 6 (some FieldType.int) rm_X2_willedOf (fun x M'' => x = some (.int r) ∧ M'' = M') 74 [] [] M) : ∀ (n : Nat) (z4 : Int32) (M : jx_M), L_X2_willedOf_3 o y1 y2 y3 k n z4 M = some (r, M') → jJ E yX2_willedOf cX2_willedOf 6 (some FieldType.int) rm_X2_willedOf (fun x M'' => x = some (.int r) ∧ M'' = M') 3 [(0, .ref (ja E o 0)), (1, .int y1), (2, .int y2), (3, .int y3), (4, .int z4)] [] M := by
  have hc_o : jx_c o = 2 := by rcases ho_o with rfl | rfl <;> rfl
  have hb_o : jB E o := hB o (by omega)
  intro n
  induction n with
  | zero => intro z4 M hF; exact nomatch (show (none : Option (Int32 × jx_M)) = some _ from hF)
  | succ n ih =>
    intro z4 M hF
    rw [L_X2_willedOf_3.eq_2] at hF
    refine jr_iload 4 dX2_willedOf_3 rfl rfl ?_
    refine jr_aload_n 0 dX2_willedOf_5 rfl rfl rfl ?_
    refine gf_X2_18 rfl hc_o hb_o dX2_willedOf_6 rfl ?_
    refine jr_icmp_ge 74 dX2_willedOf_9 (by decide) rfl (fun c1 => ?_) (fun c1 => ?_)
    · have hF := jif_p hF c1
      refine jr_sub [] rfl ?_
      exact hk M hF
    · have hF := jif_n hF c1
      refine jr_aload_n 0 dX2_willedOf_12 rfl rfl rfl ?_
      refine gf_X2_25 rfl hc_o hb_o dX2_willedOf_13 rfl ?_
      refine jr_iload 4 dX2_willedOf_16 rfl rfl ?_
      obtain ⟨hb_1, hF⟩ := jck_e hF
      refine jh_iald (ci := 2) (k := 4) hc_o hb_o (by decide) rfl rfl hb_1 dX2_willedOf_18 rfl ?_
      refine jr_iload_n 2 dX2_willedOf_19 rfl rfl rfl ?_
      refine jr_icmp_ne 38 dX2_willedOf_20 (by decide) rfl (fun c1 => ?_) (fun c1 => ?_)
      · have hF := jif_n hF c1
        refine jr_iconst (v := 0) dX2_willedOf_38 (by decide) rfl ?_
        refine jr_istore (L' := [(5, .int 0), (0, .ref (ja E o 0)), (1, .int y1), (2, .int y2), (3, .int y3), (4, .int z4)]) dX2_willedOf_39 (by decide) rfl rfl ?_
        refine jr_iload 0 dX2_willedOf_41 rfl rfl ?_
        refine jr_if_eq 68 dX2_willedOf_43 (by decide) rfl (fun c1 => ?_) (fun c1 => absurd c1 (by decide))
        obtain ⟨x4_1, ex4_1⟩ : ∃ z : Int32, z = z4 + 1 := ⟨_, rfl⟩
        have hF := jlet_e hF x4_1 ex4_1
        refine jr_iinc (v := x4_1) (L' := [(4, .int x4_1), (5, .int 0), (0, .ref (ja E o 0)), (1, .int y1), (2, .int y2), (3, .int y3)]) 5 dX2_willedOf_68 rfl (by rw [ex4_1]; rfl) (by decide) rfl rfl ?_
        refine jr_goto 3 dX2_willedOf_71 (by decide) ?_
        refine jr_sub [2, 3, 4, 5, 0] rfl ?_
        exact ih x4_1 M hF
      · have hF := jif_p hF c1
        refine jr_aload_n 0 dX2_willedOf_23 rfl rfl rfl ?_
        refine gf_X2_31 rfl hc_o hb_o dX2_willedOf_24 rfl ?_
        refine jr_iload 4 dX2_willedOf_27 rfl rfl ?_
        obtain ⟨hb_2, hF⟩ := jck_e hF
        refine jh_iald (ci := 2) (k := 6) hc_o hb_o (by decide) rfl rfl hb_2 dX2_willedOf_29 rfl ?_
        refine jr_iload_n 3 dX2_willedOf_30 rfl rfl rfl ?_
        refine jr_icmp_ne 38 dX2_willedOf_31 (by decide) rfl (fun c1 => ?_) (fun c1 => ?_)
        · have hF := jif_n hF c1
          refine jr_iconst (v := 0) dX2_willedOf_38 (by decide) rfl ?_
          refine jr_istore (L' := [(5, .int 0), (0, .ref (ja E o 0)), (1, .int y1), (2, .int y2), (3, .int y3), (4, .int z4)]) dX2_willedOf_39 (by decide) rfl rfl ?_
          refine jr_iload 0 dX2_willedOf_41 rfl rfl ?_
          refine jr_if_eq 68 dX2_willedOf_43 (by decide) rfl (fun c1 => ?_) (fun c1 => absurd c1 (by decide))
          obtain ⟨x4_2, ex4_2⟩ : ∃ z : Int32, z = z4 + 1 := ⟨_, rfl⟩
          have hF := jlet_e hF x4_2 ex4_2
          refine jr_iinc (v := x4_2) (L' := [(4, .int x4_2), (5, .int 0), (0, .ref (ja E o 0)), (1, .int y1), (2, .int y2), (3, .int y3)]) 5 dX2_willedOf_68 rfl (by rw [ex4_2]; rfl) (by decide) rfl rfl ?_
          refine jr_goto 3 dX2_willedOf_71 (by decide) ?_
          refine jr_sub [2, 3, 4, 5, 0] rfl ?_
          exact ih x4_2 M hF
        · have hF := jif_p hF c1
          refine jr_iconst (v := 1) dX2_willedOf_34 (by decide) rfl ?_
          refine jr_goto 39 dX2_willedOf_35 (by decide) ?_
          refine jr_istore (L' := [(5, .int 1), (0, .ref (ja E o 0)), (1, .int y1), (2, .int y2), (3, .int y3), (4, .int z4)]) dX2_willedOf_39 (by decide) rfl rfl ?_
          refine jr_iload 0 dX2_willedOf_41 rfl rfl ?_
          refine jr_if_eq 68 dX2_willedOf_43 (by decide) rfl (fun c1 => absurd c1 (by decide)) (fun c1 => ?_)
          refine jr_iload_n 2 dX2_willedOf_46 rfl rfl rfl ?_
          refine jr_aload_n 1 dX2_willedOf_47 rfl rfl rfl ?_
          refine gf_X2_28 rfl hc_o hb_o dX2_willedOf_48 rfl ?_
          refine jr_iload 5 dX2_willedOf_51 rfl rfl ?_
          obtain ⟨hb_3, hF⟩ := jck_e hF
          refine jh_iald (ci := 2) (k := 5) hc_o hb_o (by decide) rfl rfl hb_3 dX2_willedOf_53 rfl ?_
          refine jr_ishr dX2_willedOf_54 rfl ?_
          refine jr_iconst (v := 1) dX2_willedOf_55 (by decide) rfl ?_
          refine jr_iand dX2_willedOf_56 rfl ?_
          refine jr_if_eq 68 dX2_willedOf_57 (by decide) rfl (fun c1 => ?_) (fun c1 => ?_)
          · have hF := jif_p hF c1
            obtain ⟨x4_3, ex4_3⟩ : ∃ z : Int32, z = z4 + 1 := ⟨_, rfl⟩
            have hF := jlet_e hF x4_3 ex4_3
            refine jr_iinc (v := x4_3) (L' := [(4, .int x4_3), (5, .int 1), (0, .ref (ja E o 0)), (1, .int y1), (2, .int y2), (3, .int y3)]) 5 dX2_willedOf_68 rfl (by rw [ex4_3]; rfl) (by decide) rfl rfl ?_
            refine jr_goto 3 dX2_willedOf_71 (by decide) ?_
            refine jr_sub [2, 3, 4, 5, 0] rfl ?_
            exact ih x4_3 M hF
          · have hF := jif_n hF c1
            refine jr_aload_n 1 dX2_willedOf_60 rfl rfl rfl ?_
            refine gf_X2_28 rfl hc_o hb_o dX2_willedOf_61 rfl ?_
            refine jr_iload 5 dX2_willedOf_64 rfl rfl ?_
            obtain ⟨hb_4, hF⟩ := jck_e hF
            refine jh_iald (ci := 2) (k := 5) hc_o hb_o (by decide) rfl rfl hb_4 dX2_willedOf_66 rfl ?_
            exact jh_iret rfl dX2_willedOf_67 hF
set_option maxHeartbeats 4000000 in
set_option maxRecDepth 100000 in
theorem JF_X2_willedOf {E : jx_E} (hB : ∀ o, o < 8 → jB E o) {o : Nat} (ho_o : o = 3 ∨ o = 6) {a1 : Int32} {a2 : Int32} {a3 : Int32} {M : jx_M} {r : Int32} {M' : jx_M} (hF : F_X2_willedOf o a1 a2 a3 M = some (r, M')) : jC E yX2_willedOf cX2_willedOf 6 (some FieldType.int) rm_X2_willedOf [.ref (ja E o 0), .int a1, .int a2, .int a3] M (fun x M'' => x = some (.int r) ∧ M'' = M') := by
  have hc_o : jx_c o = 2 := by rcases ho_o with rfl | rfl <;> rfl
  have hb_o : jB E o := hB o (by omega)
  refine jC.ofJ (L := [(0, .ref (ja E o 0)), (1, .int a1), (2, .int a2), (3, .int a3)]) (by decide +kernel) (Nat.le_of_ble_eq_true rfl) rfl ?_
  unfold F_X2_willedOf at hF
  refine jr_iconst (v := 0) dX2_willedOf_0 (by decide) rfl ?_
  refine jr_istore (L' := [(4, .int 0), (0, .ref (ja E o 0)), (1, .int a1), (2, .int a2), (3, .int a3)]) dX2_willedOf_1 (by decide) rfl rfl ?_
  refine jr_sub [1, 2, 3, 4, 0] rfl ?_
  refine JL_X2_willedOf_3 hB ho_o (fun M_1 hF => ?_) jfu 0 M hF
  refine jr_bipush (v := (-9)) dX2_willedOf_74 (by decide) rfl ?_
  exact jh_iret rfl dX2_willedOf_76 hF
set_option maxHeartbeats 4000000 in
set_option maxRecDepth 100000 in
theorem JL_X0_lawfulOf_9 {E : jx_E} (hB : ∀ o, o < 8 → jB E o) {o : Nat} (ho_o : o = 5 ∨ o = 7) {y1 : Int32} {y2 : Int32} {k : Int32 → jx_M → Option (Int32 × jx_M)} {r : Int32} {M' : jx_M} (hk : ∀ (z3 : Int32) (M : jx_M), k z3 M = some (r, M') → jJ E yX0_lawfulOf cX0_lawfulOf 7 (some FieldType.int) rm_X0_lawfulOf (fun x M'' => x = some (.int r) ∧ M'' = M') 102 [(3, .int z3)] [] M) : ∀ (n : Nat) (z3 : Int32) (z4 : Int32) (z5 : Int32) (M : jx_M), L_X0_lawfulOf_9 o y1 y2 k n z3 z4 z5 M = some (r, M') → jJ E yX0_lawfulOf cX0_lawfulOf 7 (some FieldType.int) rm_X0_lawfulOf (fun x M'' => x = some (.int r) ∧ M'' = M') 9 [(0, .ref (ja E o 0)), (1, .int y1), (2, .int y2), (3, .int z3), (4, .int z4), (5, .int z5)] [] M := by
  have hc_o : jx_c o = 0 := by rcases ho_o with rfl | rfl <;> rfl
  have hb_o : jB E o := hB o (by omega)
  intro n
  induction n with
  | zero => intro z3 z4 z5 M hF; exact nomatch (show (none : Option (Int32 × jx_M)) = some _ from hF)
  | succ n ih =>
    intro z3 z4 z5 M hF
    rw [L_X0_lawfulOf_9.eq_2] at hF
    refine jr_iload 5 dX0_lawfulOf_9 rfl rfl ?_
    refine jr_aload_n 0 dX0_lawfulOf_11 rfl rfl rfl ?_
    refine gf_X0_43 rfl hc_o hb_o dX0_lawfulOf_12 rfl ?_
    refine gf_X0_90 rfl rfl (hB 2 (by decide)) dX0_lawfulOf_15 rfl ?_
    refine jr_icmp_ge 102 dX0_lawfulOf_18 (by decide) rfl (fun c1 => ?_) (fun c1 => ?_)
    · have hF := jif_p hF c1
      refine jr_sub [3] rfl ?_
      exact hk z3 M hF
    · have hF := jif_n hF c1
      refine jr_aload_n 0 dX0_lawfulOf_21 rfl rfl rfl ?_
      refine gf_X0_53 rfl hc_o hb_o dX0_lawfulOf_22 rfl ?_
      refine jr_iload 5 dX0_lawfulOf_25 rfl rfl ?_
      refine jr_ishr dX0_lawfulOf_27 rfl ?_
      refine jr_iconst (v := 1) dX0_lawfulOf_28 (by decide) rfl ?_
      refine jr_iand dX0_lawfulOf_29 rfl ?_
      refine jr_if_ne 36 dX0_lawfulOf_30 (by decide) rfl (fun c1 => ?_) (fun c1 => ?_)
      · have hF := jif_n hF c1
        refine jr_iconst (v := 0) dX0_lawfulOf_36 (by decide) rfl ?_
        refine jr_istore (L' := [(6, .int 0), (0, .ref (ja E o 0)), (1, .int y1), (2, .int y2), (3, .int z3), (4, .int z4), (5, .int z5)]) dX0_lawfulOf_37 (by decide) rfl rfl ?_
        refine jr_iload_n 2 dX0_lawfulOf_39 rfl rfl rfl ?_
        refine jr_iconst (v := 1) dX0_lawfulOf_40 (by decide) rfl ?_
        refine jr_icmp_ne 53 dX0_lawfulOf_41 (by decide) rfl (fun c1 => ?_) (fun c1 => ?_)
        · have hF := jif_n hF c1
          refine jr_iload_n 2 dX0_lawfulOf_53 rfl rfl rfl ?_
          refine jr_iconst (v := 2) dX0_lawfulOf_54 (by decide) rfl ?_
          refine jr_icmp_ne 76 dX0_lawfulOf_55 (by decide) rfl (fun c1 => ?_) (fun c1 => ?_)
          · have hF := jif_n hF c1
            refine jr_iload_n 4 dX0_lawfulOf_76 rfl rfl rfl ?_
            refine jr_bipush (v := (-9)) dX0_lawfulOf_77 (by decide) rfl ?_
            refine jr_icmp_eq 89 dX0_lawfulOf_79 (by decide) rfl (fun c1 => ?_) (fun c1 => ?_)
            · have hF := jif_p hF c1
              refine jr_iload 6 dX0_lawfulOf_89 rfl rfl ?_
              refine jr_istore_n (L' := [(3, .int z5), (6, .int 0), (0, .ref (ja E o 0)), (1, .int y1), (2, .int y2), (4, .int z4), (5, .int z5)]) dX0_lawfulOf_91 rfl (by decide) rfl rfl ?_
              refine jr_iload 1 dX0_lawfulOf_92 rfl rfl ?_
              refine jr_istore (L' := [(4, .int 0), (3, .int z5), (6, .int 0), (0, .ref (ja E o 0)), (1, .int y1), (2, .int y2), (5, .int z5)]) dX0_lawfulOf_94 (by decide) rfl rfl ?_
              obtain ⟨x5_1, ex5_1⟩ : ∃ z : Int32, z = z5 + 1 := ⟨_, rfl⟩
              have hF := jlet_e hF x5_1 ex5_1
              refine jr_iinc (v := x5_1) (L' := [(5, .int x5_1), (4, .int 0), (3, .int z5), (6, .int 0), (0, .ref (ja E o 0)), (1, .int y1), (2, .int y2)]) 6 dX0_lawfulOf_96 rfl (by rw [ex5_1]; rfl) (by decide) rfl rfl ?_
              refine jr_goto 9 dX0_lawfulOf_99 (by decide) ?_
              refine jr_sub [4, 5, 6, 2, 1, 0] rfl ?_
              exact ih z5 0 x5_1 M hF
            · have hF := jif_n hF c1
              refine jr_iload 0 dX0_lawfulOf_82 rfl rfl ?_
              refine jr_iload 5 dX0_lawfulOf_84 rfl rfl ?_
              refine jr_icmp_le 96 dX0_lawfulOf_86 (by decide) rfl (fun c1 => ?_) (fun c1 => ?_)
              · have hF := jif_p hF c1
                obtain ⟨x5_2, ex5_2⟩ : ∃ z : Int32, z = z5 + 1 := ⟨_, rfl⟩
                have hF := jlet_e hF x5_2 ex5_2
                refine jr_iinc (v := x5_2) (L' := [(5, .int x5_2), (6, .int 0), (0, .ref (ja E o 0)), (1, .int y1), (2, .int y2), (3, .int z3), (4, .int z4)]) 6 dX0_lawfulOf_96 rfl (by rw [ex5_2]; rfl) (by decide) rfl rfl ?_
                refine jr_goto 9 dX0_lawfulOf_99 (by decide) ?_
                refine jr_sub [2, 3, 4, 5, 6, 0] rfl ?_
                exact ih z3 z4 x5_2 M hF
              · have hF := jif_n hF c1
                refine jr_iload 6 dX0_lawfulOf_89 rfl rfl ?_
                refine jr_istore_n (L' := [(3, .int z5), (6, .int 0), (0, .ref (ja E o 0)), (1, .int y1), (2, .int y2), (4, .int z4), (5, .int z5)]) dX0_lawfulOf_91 rfl (by decide) rfl rfl ?_
                refine jr_iload 1 dX0_lawfulOf_92 rfl rfl ?_
                refine jr_istore (L' := [(4, .int 0), (3, .int z5), (6, .int 0), (0, .ref (ja E o 0)), (1, .int y1), (2, .int y2), (5, .int z5)]) dX0_lawfulOf_94 (by decide) rfl rfl ?_
                obtain ⟨x5_3, ex5_3⟩ : ∃ z : Int32, z = z5 + 1 := ⟨_, rfl⟩
                have hF := jlet_e hF x5_3 ex5_3
                refine jr_iinc (v := x5_3) (L' := [(5, .int x5_3), (4, .int 0), (3, .int z5), (6, .int 0), (0, .ref (ja E o 0)), (1, .int y1), (2, .int y2)]) 6 dX0_lawfulOf_96 rfl (by rw [ex5_3]; rfl) (by decide) rfl rfl ?_
                refine jr_goto 9 dX0_lawfulOf_99 (by decide) ?_
                refine jr_sub [4, 5, 6, 2, 1, 0] rfl ?_
                exact ih z5 0 x5_3 M hF
          · have hF := jif_p hF c1
            refine jr_aload_n 1 dX0_lawfulOf_58 rfl rfl rfl ?_
            refine gf_X0_43 rfl hc_o hb_o dX0_lawfulOf_59 rfl ?_
            refine gf_X0_121 rfl rfl (hB 2 (by decide)) dX0_lawfulOf_62 rfl ?_
            refine jr_iload 6 dX0_lawfulOf_65 rfl rfl ?_
            obtain ⟨hb_1, hF⟩ := jck_e hF
            refine jh_iald (ci := 1) (k := 3) rfl (hB 2 (by decide)) (by decide) rfl rfl hb_1 dX0_lawfulOf_67 rfl ?_
            refine jr_iload_n 3 dX0_lawfulOf_68 rfl rfl rfl ?_
            refine jr_isub dX0_lawfulOf_69 rfl ?_
            refine jh_abs (lw_g_of 418 (by decide +kernel) (by decide +kernel)) (lw_g_of 419 (by decide +kernel) (by decide +kernel)) (lw_g_of 59 (by decide +kernel) (by decide +kernel)) (lw_g_of 420 (by decide +kernel) (by decide +kernel)) (by decide) (by decide) dX0_lawfulOf_70 rfl ?_
            refine jr_ineg dX0_lawfulOf_73 rfl ?_
            refine jr_topi (fun x6_1 ex6_1 => ?_)
            have hF := jlet_e hF x6_1 ex6_1
            refine jr_istore (L' := [(6, .int x6_1), (0, .ref (ja E o 0)), (1, .int y1), (2, .int y2), (3, .int z3), (4, .int z4), (5, .int z5)]) dX0_lawfulOf_74 (by decide) rfl rfl ?_
            refine jr_iload_n 4 dX0_lawfulOf_76 rfl rfl rfl ?_
            refine jr_bipush (v := (-9)) dX0_lawfulOf_77 (by decide) rfl ?_
            refine jr_icmp_eq 89 dX0_lawfulOf_79 (by decide) rfl (fun c1 => ?_) (fun c1 => ?_)
            · have hF := jif_p hF c1
              refine jr_iload 6 dX0_lawfulOf_89 rfl rfl ?_
              refine jr_istore_n (L' := [(3, .int z5), (6, .int x6_1), (0, .ref (ja E o 0)), (1, .int y1), (2, .int y2), (4, .int z4), (5, .int z5)]) dX0_lawfulOf_91 rfl (by decide) rfl rfl ?_
              refine jr_iload 1 dX0_lawfulOf_92 rfl rfl ?_
              refine jr_istore (L' := [(4, .int x6_1), (3, .int z5), (6, .int x6_1), (0, .ref (ja E o 0)), (1, .int y1), (2, .int y2), (5, .int z5)]) dX0_lawfulOf_94 (by decide) rfl rfl ?_
              obtain ⟨x5_4, ex5_4⟩ : ∃ z : Int32, z = z5 + 1 := ⟨_, rfl⟩
              have hF := jlet_e hF x5_4 ex5_4
              refine jr_iinc (v := x5_4) (L' := [(5, .int x5_4), (4, .int x6_1), (3, .int z5), (6, .int x6_1), (0, .ref (ja E o 0)), (1, .int y1), (2, .int y2)]) 6 dX0_lawfulOf_96 rfl (by rw [ex5_4]; rfl) (by decide) rfl rfl ?_
              refine jr_goto 9 dX0_lawfulOf_99 (by decide) ?_
              refine jr_sub [4, 5, 6, 2, 1, 0] rfl ?_
              exact ih z5 x6_1 x5_4 M hF
            · have hF := jif_n hF c1
              refine jr_iload 0 dX0_lawfulOf_82 rfl rfl ?_
              refine jr_iload 5 dX0_lawfulOf_84 rfl rfl ?_
              refine jr_icmp_le 96 dX0_lawfulOf_86 (by decide) rfl (fun c1 => ?_) (fun c1 => ?_)
              · have hF := jif_p hF c1
                obtain ⟨x5_5, ex5_5⟩ : ∃ z : Int32, z = z5 + 1 := ⟨_, rfl⟩
                have hF := jlet_e hF x5_5 ex5_5
                refine jr_iinc (v := x5_5) (L' := [(5, .int x5_5), (6, .int x6_1), (0, .ref (ja E o 0)), (1, .int y1), (2, .int y2), (3, .int z3), (4, .int z4)]) 6 dX0_lawfulOf_96 rfl (by rw [ex5_5]; rfl) (by decide) rfl rfl ?_
                refine jr_goto 9 dX0_lawfulOf_99 (by decide) ?_
                refine jr_sub [2, 3, 4, 5, 6, 0] rfl ?_
                exact ih z3 z4 x5_5 M hF
              · have hF := jif_n hF c1
                refine jr_iload 6 dX0_lawfulOf_89 rfl rfl ?_
                refine jr_istore_n (L' := [(3, .int z5), (6, .int x6_1), (0, .ref (ja E o 0)), (1, .int y1), (2, .int y2), (4, .int z4), (5, .int z5)]) dX0_lawfulOf_91 rfl (by decide) rfl rfl ?_
                refine jr_iload 1 dX0_lawfulOf_92 rfl rfl ?_
                refine jr_istore (L' := [(4, .int x6_1), (3, .int z5), (6, .int x6_1), (0, .ref (ja E o 0)), (1, .int y1), (2, .int y2), (5, .int z5)]) dX0_lawfulOf_94 (by decide) rfl rfl ?_
                obtain ⟨x5_6, ex5_6⟩ : ∃ z : Int32, z = z5 + 1 := ⟨_, rfl⟩
                have hF := jlet_e hF x5_6 ex5_6
                refine jr_iinc (v := x5_6) (L' := [(5, .int x5_6), (4, .int x6_1), (3, .int z5), (6, .int x6_1), (0, .ref (ja E o 0)), (1, .int y1), (2, .int y2)]) 6 dX0_lawfulOf_96 rfl (by rw [ex5_6]; rfl) (by decide) rfl rfl ?_
                refine jr_goto 9 dX0_lawfulOf_99 (by decide) ?_
                refine jr_sub [4, 5, 6, 2, 1, 0] rfl ?_
                exact ih z5 x6_1 x5_6 M hF
        · have hF := jif_p hF c1
          refine jr_aload_n 1 dX0_lawfulOf_44 rfl rfl rfl ?_
          refine gf_X0_40 rfl hc_o hb_o dX0_lawfulOf_45 rfl ?_
          refine jr_iload 6 dX0_lawfulOf_48 rfl rfl ?_
          obtain ⟨hb_2, hF⟩ := jck_e hF
          refine jh_iald (ci := 0) (k := 10) hc_o hb_o (by decide) rfl rfl hb_2 dX0_lawfulOf_50 rfl ?_
          refine jr_topi (fun x6_2 ex6_2 => ?_)
          have hF := jlet_e hF x6_2 ex6_2
          refine jr_istore (L' := [(6, .int x6_2), (0, .ref (ja E o 0)), (1, .int y1), (2, .int y2), (3, .int z3), (4, .int z4), (5, .int z5)]) dX0_lawfulOf_51 (by decide) rfl rfl ?_
          refine jr_iload_n 2 dX0_lawfulOf_53 rfl rfl rfl ?_
          refine jr_iconst (v := 2) dX0_lawfulOf_54 (by decide) rfl ?_
          refine jr_icmp_ne 76 dX0_lawfulOf_55 (by decide) rfl (fun c1 => ?_) (fun c1 => ?_)
          · have hF := jif_n hF c1
            refine jr_iload_n 4 dX0_lawfulOf_76 rfl rfl rfl ?_
            refine jr_bipush (v := (-9)) dX0_lawfulOf_77 (by decide) rfl ?_
            refine jr_icmp_eq 89 dX0_lawfulOf_79 (by decide) rfl (fun c1 => ?_) (fun c1 => ?_)
            · have hF := jif_p hF c1
              refine jr_iload 6 dX0_lawfulOf_89 rfl rfl ?_
              refine jr_istore_n (L' := [(3, .int z5), (6, .int x6_2), (0, .ref (ja E o 0)), (1, .int y1), (2, .int y2), (4, .int z4), (5, .int z5)]) dX0_lawfulOf_91 rfl (by decide) rfl rfl ?_
              refine jr_iload 1 dX0_lawfulOf_92 rfl rfl ?_
              refine jr_istore (L' := [(4, .int x6_2), (3, .int z5), (6, .int x6_2), (0, .ref (ja E o 0)), (1, .int y1), (2, .int y2), (5, .int z5)]) dX0_lawfulOf_94 (by decide) rfl rfl ?_
              obtain ⟨x5_7, ex5_7⟩ : ∃ z : Int32, z = z5 + 1 := ⟨_, rfl⟩
              have hF := jlet_e hF x5_7 ex5_7
              refine jr_iinc (v := x5_7) (L' := [(5, .int x5_7), (4, .int x6_2), (3, .int z5), (6, .int x6_2), (0, .ref (ja E o 0)), (1, .int y1), (2, .int y2)]) 6 dX0_lawfulOf_96 rfl (by rw [ex5_7]; rfl) (by decide) rfl rfl ?_
              refine jr_goto 9 dX0_lawfulOf_99 (by decide) ?_
              refine jr_sub [4, 5, 6, 2, 1, 0] rfl ?_
              exact ih z5 x6_2 x5_7 M hF
            · have hF := jif_n hF c1
              refine jr_iload 0 dX0_lawfulOf_82 rfl rfl ?_
              refine jr_iload 5 dX0_lawfulOf_84 rfl rfl ?_
              refine jr_icmp_le 96 dX0_lawfulOf_86 (by decide) rfl (fun c1 => ?_) (fun c1 => ?_)
              · have hF := jif_p hF c1
                obtain ⟨x5_8, ex5_8⟩ : ∃ z : Int32, z = z5 + 1 := ⟨_, rfl⟩
                have hF := jlet_e hF x5_8 ex5_8
                refine jr_iinc (v := x5_8) (L' := [(5, .int x5_8), (6, .int x6_2), (0, .ref (ja E o 0)), (1, .int y1), (2, .int y2), (3, .int z3), (4, .int z4)]) 6 dX0_lawfulOf_96 rfl (by rw [ex5_8]; rfl) (by decide) rfl rfl ?_
                refine jr_goto 9 dX0_lawfulOf_99 (by decide) ?_
                refine jr_sub [2, 3, 4, 5, 6, 0] rfl ?_
                exact ih z3 z4 x5_8 M hF
              · have hF := jif_n hF c1
                refine jr_iload 6 dX0_lawfulOf_89 rfl rfl ?_
                refine jr_istore_n (L' := [(3, .int z5), (6, .int x6_2), (0, .ref (ja E o 0)), (1, .int y1), (2, .int y2), (4, .int z4), (5, .int z5)]) dX0_lawfulOf_91 rfl (by decide) rfl rfl ?_
                refine jr_iload 1 dX0_lawfulOf_92 rfl rfl ?_
                refine jr_istore (L' := [(4, .int x6_2), (3, .int z5), (6, .int x6_2), (0, .ref (ja E o 0)), (1, .int y1), (2, .int y2), (5, .int z5)]) dX0_lawfulOf_94 (by decide) rfl rfl ?_
                obtain ⟨x5_9, ex5_9⟩ : ∃ z : Int32, z = z5 + 1 := ⟨_, rfl⟩
                have hF := jlet_e hF x5_9 ex5_9
                refine jr_iinc (v := x5_9) (L' := [(5, .int x5_9), (4, .int x6_2), (3, .int z5), (6, .int x6_2), (0, .ref (ja E o 0)), (1, .int y1), (2, .int y2)]) 6 dX0_lawfulOf_96 rfl (by rw [ex5_9]; rfl) (by decide) rfl rfl ?_
                refine jr_goto 9 dX0_lawfulOf_99 (by decide) ?_
                refine jr_sub [4, 5, 6, 2, 1, 0] rfl ?_
                exact ih z5 x6_2 x5_9 M hF
          · have hF := jif_p hF c1
            refine jr_aload_n 1 dX0_lawfulOf_58 rfl rfl rfl ?_
            refine gf_X0_43 rfl hc_o hb_o dX0_lawfulOf_59 rfl ?_
            refine gf_X0_121 rfl rfl (hB 2 (by decide)) dX0_lawfulOf_62 rfl ?_
            refine jr_iload 6 dX0_lawfulOf_65 rfl rfl ?_
            obtain ⟨hb_3, hF⟩ := jck_e hF
            refine jh_iald (ci := 1) (k := 3) rfl (hB 2 (by decide)) (by decide) rfl rfl hb_3 dX0_lawfulOf_67 rfl ?_
            refine jr_iload_n 3 dX0_lawfulOf_68 rfl rfl rfl ?_
            refine jr_isub dX0_lawfulOf_69 rfl ?_
            refine jh_abs (lw_g_of 418 (by decide +kernel) (by decide +kernel)) (lw_g_of 419 (by decide +kernel) (by decide +kernel)) (lw_g_of 59 (by decide +kernel) (by decide +kernel)) (lw_g_of 420 (by decide +kernel) (by decide +kernel)) (by decide) (by decide) dX0_lawfulOf_70 rfl ?_
            refine jr_ineg dX0_lawfulOf_73 rfl ?_
            refine jr_topi (fun x6_3 ex6_3 => ?_)
            have hF := jlet_e hF x6_3 ex6_3
            refine jr_istore (L' := [(6, .int x6_3), (0, .ref (ja E o 0)), (1, .int y1), (2, .int y2), (3, .int z3), (4, .int z4), (5, .int z5)]) dX0_lawfulOf_74 (by decide) rfl rfl ?_
            refine jr_iload_n 4 dX0_lawfulOf_76 rfl rfl rfl ?_
            refine jr_bipush (v := (-9)) dX0_lawfulOf_77 (by decide) rfl ?_
            refine jr_icmp_eq 89 dX0_lawfulOf_79 (by decide) rfl (fun c1 => ?_) (fun c1 => ?_)
            · have hF := jif_p hF c1
              refine jr_iload 6 dX0_lawfulOf_89 rfl rfl ?_
              refine jr_istore_n (L' := [(3, .int z5), (6, .int x6_3), (0, .ref (ja E o 0)), (1, .int y1), (2, .int y2), (4, .int z4), (5, .int z5)]) dX0_lawfulOf_91 rfl (by decide) rfl rfl ?_
              refine jr_iload 1 dX0_lawfulOf_92 rfl rfl ?_
              refine jr_istore (L' := [(4, .int x6_3), (3, .int z5), (6, .int x6_3), (0, .ref (ja E o 0)), (1, .int y1), (2, .int y2), (5, .int z5)]) dX0_lawfulOf_94 (by decide) rfl rfl ?_
              obtain ⟨x5_10, ex5_10⟩ : ∃ z : Int32, z = z5 + 1 := ⟨_, rfl⟩
              have hF := jlet_e hF x5_10 ex5_10
              refine jr_iinc (v := x5_10) (L' := [(5, .int x5_10), (4, .int x6_3), (3, .int z5), (6, .int x6_3), (0, .ref (ja E o 0)), (1, .int y1), (2, .int y2)]) 6 dX0_lawfulOf_96 rfl (by rw [ex5_10]; rfl) (by decide) rfl rfl ?_
              refine jr_goto 9 dX0_lawfulOf_99 (by decide) ?_
              refine jr_sub [4, 5, 6, 2, 1, 0] rfl ?_
              exact ih z5 x6_3 x5_10 M hF
            · have hF := jif_n hF c1
              refine jr_iload 0 dX0_lawfulOf_82 rfl rfl ?_
              refine jr_iload 5 dX0_lawfulOf_84 rfl rfl ?_
              refine jr_icmp_le 96 dX0_lawfulOf_86 (by decide) rfl (fun c1 => ?_) (fun c1 => ?_)
              · have hF := jif_p hF c1
                obtain ⟨x5_11, ex5_11⟩ : ∃ z : Int32, z = z5 + 1 := ⟨_, rfl⟩
                have hF := jlet_e hF x5_11 ex5_11
                refine jr_iinc (v := x5_11) (L' := [(5, .int x5_11), (6, .int x6_3), (0, .ref (ja E o 0)), (1, .int y1), (2, .int y2), (3, .int z3), (4, .int z4)]) 6 dX0_lawfulOf_96 rfl (by rw [ex5_11]; rfl) (by decide) rfl rfl ?_
                refine jr_goto 9 dX0_lawfulOf_99 (by decide) ?_
                refine jr_sub [2, 3, 4, 5, 6, 0] rfl ?_
                exact ih z3 z4 x5_11 M hF
              · have hF := jif_n hF c1
                refine jr_iload 6 dX0_lawfulOf_89 rfl rfl ?_
                refine jr_istore_n (L' := [(3, .int z5), (6, .int x6_3), (0, .ref (ja E o 0)), (1, .int y1), (2, .int y2), (4, .int z4), (5, .int z5)]) dX0_lawfulOf_91 rfl (by decide) rfl rfl ?_
                refine jr_iload 1 dX0_lawfulOf_92 rfl rfl ?_
                refine jr_istore (L' := [(4, .int x6_3), (3, .int z5), (6, .int x6_3), (0, .ref (ja E o 0)), (1, .int y1), (2, .int y2), (5, .int z5)]) dX0_lawfulOf_94 (by decide) rfl rfl ?_
                obtain ⟨x5_12, ex5_12⟩ : ∃ z : Int32, z = z5 + 1 := ⟨_, rfl⟩
                have hF := jlet_e hF x5_12 ex5_12
                refine jr_iinc (v := x5_12) (L' := [(5, .int x5_12), (4, .int x6_3), (3, .int z5), (6, .int x6_3), (0, .ref (ja E o 0)), (1, .int y1), (2, .int y2)]) 6 dX0_lawfulOf_96 rfl (by rw [ex5_12]; rfl) (by decide) rfl rfl ?_
                refine jr_goto 9 dX0_lawfulOf_99 (by decide) ?_
                refine jr_sub [4, 5, 6, 2, 1, 0] rfl ?_
                exact ih z5 x6_3 x5_12 M hF
      · have hF := jif_p hF c1
        refine jr_goto 96 dX0_lawfulOf_33 (by decide) ?_
        obtain ⟨x5_13, ex5_13⟩ : ∃ z : Int32, z = z5 + 1 := ⟨_, rfl⟩
        have hF := jlet_e hF x5_13 ex5_13
        refine jr_iinc (v := x5_13) (L' := [(5, .int x5_13), (0, .ref (ja E o 0)), (1, .int y1), (2, .int y2), (3, .int z3), (4, .int z4)]) 5 dX0_lawfulOf_96 rfl (by rw [ex5_13]; rfl) (by decide) rfl rfl ?_
        refine jr_goto 9 dX0_lawfulOf_99 (by decide) ?_
        refine jr_sub [1, 2, 3, 4, 5, 0] rfl ?_
        exact ih z3 z4 x5_13 M hF
set_option maxHeartbeats 4000000 in
set_option maxRecDepth 100000 in
theorem JF_X0_lawfulOf {E : jx_E} (hB : ∀ o, o < 8 → jB E o) {o : Nat} (ho_o : o = 5 ∨ o = 7) {a1 : Int32} {a2 : Int32} {M : jx_M} {r : Int32} {M' : jx_M} (hF : F_X0_lawfulOf o a1 a2 M = some (r, M')) : jC E yX0_lawfulOf cX0_lawfulOf 7 (some FieldType.int) rm_X0_lawfulOf [.ref (ja E o 0), .int a1, .int a2] M (fun x M'' => x = some (.int r) ∧ M'' = M') := by
  have hc_o : jx_c o = 0 := by rcases ho_o with rfl | rfl <;> rfl
  have hb_o : jB E o := hB o (by omega)
  refine jC.ofJ (L := [(0, .ref (ja E o 0)), (1, .int a1), (2, .int a2)]) (by decide +kernel) (Nat.le_of_ble_eq_true rfl) rfl ?_
  unfold F_X0_lawfulOf at hF
  refine jr_bipush (v := (-9)) dX0_lawfulOf_0 (by decide) rfl ?_
  refine jr_istore_n (L' := [(3, .int (-9)), (0, .ref (ja E o 0)), (1, .int a1), (2, .int a2)]) dX0_lawfulOf_2 rfl (by decide) rfl rfl ?_
  refine jr_iconst (v := 0) dX0_lawfulOf_3 (by decide) rfl ?_
  refine jr_istore (L' := [(4, .int 0), (3, .int (-9)), (0, .ref (ja E o 0)), (1, .int a1), (2, .int a2)]) dX0_lawfulOf_4 (by decide) rfl rfl ?_
  refine jr_iconst (v := 0) dX0_lawfulOf_6 (by decide) rfl ?_
  refine jr_istore (L' := [(5, .int 0), (4, .int 0), (3, .int (-9)), (0, .ref (ja E o 0)), (1, .int a1), (2, .int a2)]) dX0_lawfulOf_7 (by decide) rfl rfl ?_
  refine jr_sub [3, 4, 5, 2, 1, 0] rfl ?_
  refine JL_X0_lawfulOf_9 hB ho_o (fun x3_1 M_1 hF => ?_) jfu (-9) 0 0 M hF
  refine jr_iload_n 0 dX0_lawfulOf_102 rfl rfl rfl ?_
  exact jh_iret rfl dX0_lawfulOf_103 hF
set_option maxHeartbeats 4000000 in
set_option maxRecDepth 100000 in
theorem JF_X0_chosenOf {E : jx_E} (hB : ∀ o, o < 8 → jB E o) {o : Nat} (ho_o : o = 5 ∨ o = 7) {o1 : Nat} (ho_o1 : o1 = 3 ∨ o1 = 6) {a1 : Int32} {a2 : Int32} {M : jx_M} {r : Int32} {M' : jx_M} (hF : F_X0_chosenOf o a1 a2 o1 M = some (r, M')) : jC E yX0_chosenOf cX0_chosenOf 5 (some FieldType.int) rm_X0_chosenOf [.ref (ja E o 0), .int a1, .int a2, .ref (ja E o1 0)] M (fun x M'' => x = some (.int r) ∧ M'' = M') := by
  have hc_o : jx_c o = 0 := by rcases ho_o with rfl | rfl <;> rfl
  have hb_o : jB E o := hB o (by omega)
  have hc_o1 : jx_c o1 = 2 := by rcases ho_o1 with rfl | rfl <;> rfl
  have hb_o1 : jB E o1 := hB o1 (by omega)
  refine jC.ofJ (L := [(0, .ref (ja E o 0)), (1, .int a1), (2, .int a2), (3, .ref (ja E o1 0))]) (by decide +kernel) (Nat.le_of_ble_eq_true rfl) rfl ?_
  unfold F_X0_chosenOf at hF
  refine jr_aload_n 3 dX0_chosenOf_0 rfl rfl rfl ?_
  refine jr_aload_n 0 dX0_chosenOf_1 rfl rfl rfl ?_
  refine gf_X0_53 rfl hc_o hb_o dX0_chosenOf_2 rfl ?_
  refine jr_iload_n 2 dX0_chosenOf_5 rfl rfl rfl ?_
  refine jr_iload_n 1 dX0_chosenOf_6 rfl rfl rfl ?_
  obtain ⟨r_1, M_1, hc_1, hF⟩ := jbd_e hF
  refine jh_callV1 (v := .int r_1) (o := o1) (as := [.int (M o 13 0), .int a2, .int a1]) (st := []) (JF_X2_willedOf hB ho_o1 hc_1) cw_X0_107 (iv_X2_willedOf) ⟨rfl, rfl, by decide, by decide⟩ (by rw [hc_o1]; rfl) hb_o1 rfl rfl (Nat.le_of_ble_eq_true rfl) dX0_chosenOf_7 rfl ?_
  refine jr_istore (L' := [(4, .int r_1), (0, .ref (ja E o 0)), (1, .int a1), (2, .int a2), (3, .ref (ja E o1 0))]) dX0_chosenOf_10 (by decide) rfl rfl ?_
  refine jr_iload 0 dX0_chosenOf_12 rfl rfl ?_
  refine jr_bipush (v := (-9)) dX0_chosenOf_14 (by decide) rfl ?_
  refine jr_icmp_eq 22 dX0_chosenOf_16 (by decide) rfl (fun c1 => ?_) (fun c1 => ?_)
  · have hF := jif_p hF c1
    refine jr_aload_n 1 dX0_chosenOf_22 rfl rfl rfl ?_
    refine gf_X0_25 rfl hc_o hb_o dX0_chosenOf_23 rfl ?_
    refine jr_iload_n 2 dX0_chosenOf_26 rfl rfl rfl ?_
    refine jr_iconst (v := 4) dX0_chosenOf_27 (by decide) rfl ?_
    refine jr_imul dX0_chosenOf_28 rfl ?_
    refine jr_iload_n 3 dX0_chosenOf_29 rfl rfl rfl ?_
    refine jr_iadd dX0_chosenOf_30 rfl ?_
    refine jr_aload_n 1 dX0_chosenOf_31 rfl rfl rfl ?_
    refine gf_X0_53 rfl hc_o hb_o dX0_chosenOf_32 rfl ?_
    obtain ⟨hb_1, hF⟩ := jck_e hF
    refine jh_iast (ci := 0) (k := 5) hc_o hb_o (by decide) rfl rfl hb_1 dX0_chosenOf_35 rfl (fun M_2 eM_2 => ?_)
    have hF := jlet_e hF M_2 eM_2
    refine jr_aload_n 1 dX0_chosenOf_36 rfl rfl rfl ?_
    refine jr_aload_n 4 dX0_chosenOf_37 rfl rfl rfl ?_
    refine gf_X0_111 rfl hc_o1 hb_o1 dX0_chosenOf_38 rfl ?_
    refine jr_iload_n 3 dX0_chosenOf_41 rfl rfl rfl ?_
    obtain ⟨r_2, M_3, hc_2, hF⟩ := jbd_e hF
    refine jh_callV1 (v := .int r_2) (o := o) (as := [.int (M_2 o1 0 0), .int a2]) (st := []) (JF_X0_lawfulOf hB ho_o hc_2) cw_X0_114 (iv_X0_lawfulOf) ⟨rfl, rfl, by decide, by decide⟩ (by rw [hc_o]; rfl) hb_o rfl rfl (Nat.le_of_ble_eq_true rfl) dX0_chosenOf_42 rfl ?_
    exact jh_iret rfl dX0_chosenOf_45 hF
  · have hF := jif_n hF c1
    refine jr_iload 0 dX0_chosenOf_19 rfl rfl ?_
    exact jh_iret rfl dX0_chosenOf_21 hF
set_option maxHeartbeats 4000000 in
set_option maxRecDepth 100000 in
theorem JF_X1_sleepOf {E : jx_E} (hB : ∀ o, o < 8 → jB E o) {a1 : Int32} {M : jx_M} {r : Int32} {M' : jx_M} (hF : F_X1_sleepOf a1 M = some (r, M')) : jC E yX1_sleepOf cX1_sleepOf 2 (some FieldType.int) rm_X1_sleepOf [.ref (ja E 2 0), .int a1] M (fun x M'' => x = some (.int r) ∧ M'' = M') := by
  refine jC.ofJ (L := [(0, .ref (ja E 2 0)), (1, .int a1)]) (by decide +kernel) (Nat.le_of_ble_eq_true rfl) rfl ?_
  unfold F_X1_sleepOf at hF
  refine jr_aload_n 0 dX1_sleepOf_0 rfl rfl rfl ?_
  refine gf_X1_18 rfl rfl (hB 2 (by decide)) dX1_sleepOf_1 rfl ?_
  refine jr_iload_n 1 dX1_sleepOf_4 rfl rfl rfl ?_
  obtain ⟨hb_1, hF⟩ := jck_e hF
  refine jh_iald (ci := 1) (k := 2) rfl (hB 2 (by decide)) (by decide) rfl rfl hb_1 dX1_sleepOf_5 rfl ?_
  refine jr_topi (fun sw_1 esw_1 => ?_)
  have hF := jlet_e hF sw_1 esw_1
  by_cases s1 : sw_1 = 1
  · have hF := jif_p hF s1
    refine jr_look (off := 37) 43 dX1_sleepOf_6 (by decide) (by rw [s1]; decide) (by decide) ?_
    refine jr_aload_n 0 dX1_sleepOf_43 rfl rfl rfl ?_
    refine gf_X1_31 rfl rfl (hB 2 (by decide)) dX1_sleepOf_44 rfl ?_
    refine jr_iload_n 1 dX1_sleepOf_47 rfl rfl rfl ?_
    obtain ⟨hb_2, hF⟩ := jck_e hF
    refine jh_iald (ci := 1) (k := 6) rfl (hB 2 (by decide)) (by decide) rfl rfl hb_2 dX1_sleepOf_48 rfl ?_
    refine jr_iconst (v := 2) dX1_sleepOf_49 (by decide) rfl ?_
    refine jr_iadd dX1_sleepOf_50 rfl ?_
    exact jh_iret rfl dX1_sleepOf_51 hF
  · have hF := jif_n hF s1
    by_cases s2 : sw_1 = 2
    · have hF := jif_p hF s2
      refine jr_look (off := 26) 32 dX1_sleepOf_6 (by decide) (by rw [s2]; decide) (by decide) ?_
      refine jr_iconst (v := 2) dX1_sleepOf_32 (by decide) rfl ?_
      refine jr_aload_n 0 dX1_sleepOf_33 rfl rfl rfl ?_
      refine gf_X1_31 rfl rfl (hB 2 (by decide)) dX1_sleepOf_34 rfl ?_
      refine jr_iload_n 1 dX1_sleepOf_37 rfl rfl rfl ?_
      obtain ⟨hb_3, hF⟩ := jck_e hF
      refine jh_iald (ci := 1) (k := 6) rfl (hB 2 (by decide)) (by decide) rfl rfl hb_3 dX1_sleepOf_38 rfl ?_
      refine jr_iconst (v := 2) dX1_sleepOf_39 (by decide) rfl ?_
      refine jr_iadd dX1_sleepOf_40 rfl ?_
      refine jr_imul dX1_sleepOf_41 rfl ?_
      exact jh_iret rfl dX1_sleepOf_42 hF
    · have hF := jif_n hF s2
      refine jr_look (off := 46) 52 dX1_sleepOf_6 (by decide) (jlook2 s1 s2) (by decide) ?_
      refine jr_aload_n 0 dX1_sleepOf_52 rfl rfl rfl ?_
      refine gf_X1_31 rfl rfl (hB 2 (by decide)) dX1_sleepOf_53 rfl ?_
      refine jr_iload_n 1 dX1_sleepOf_56 rfl rfl rfl ?_
      obtain ⟨hb_4, hF⟩ := jck_e hF
      refine jh_iald (ci := 1) (k := 6) rfl (hB 2 (by decide)) (by decide) rfl rfl hb_4 dX1_sleepOf_57 rfl ?_
      exact jh_iret rfl dX1_sleepOf_58 hF
set_option maxHeartbeats 4000000 in
set_option maxRecDepth 100000 in
theorem JF_X0_layDown {E : jx_E} (hB : ∀ o, o < 8 → jB E o) {o : Nat} (ho_o : o = 5 ∨ o = 7) {a1 : Int32} {a2 : Int32} {a3 : Int32} {M : jx_M} {r : Unit} {M' : jx_M} (hF : F_X0_layDown o a1 a2 a3 M = some (r, M')) : jC E yX0_layDown cX0_layDown 5 none rm_X0_layDown [.ref (ja E o 0), .int a1, .int a2, .int a3] M (fun x M'' => x = none ∧ M'' = M') := by
  have hc_o : jx_c o = 0 := by rcases ho_o with rfl | rfl <;> rfl
  have hb_o : jB E o := hB o (by omega)
  refine jC.ofJ (L := [(0, .ref (ja E o 0)), (1, .int a1), (2, .int a2), (3, .int a3)]) (by decide +kernel) (Nat.le_of_ble_eq_true rfl) rfl ?_
  unfold F_X0_layDown at hF
  refine jr_aload_n 0 dX0_layDown_0 rfl rfl rfl ?_
  refine gf_X0_34 rfl hc_o hb_o dX0_layDown_1 rfl ?_
  refine jr_iload_n 2 dX0_layDown_4 rfl rfl rfl ?_
  refine jr_iload_n 3 dX0_layDown_5 rfl rfl rfl ?_
  obtain ⟨hb_1, hF⟩ := jck_e hF
  refine jh_iast (ci := 0) (k := 8) hc_o hb_o (by decide) rfl rfl hb_1 dX0_layDown_6 rfl (fun M_1 eM_1 => ?_)
  have hF := jlet_e hF M_1 eM_1
  refine jr_aload_n 0 dX0_layDown_7 rfl rfl rfl ?_
  refine gf_X0_37 rfl hc_o hb_o dX0_layDown_8 rfl ?_
  refine jr_iload_n 2 dX0_layDown_11 rfl rfl rfl ?_
  refine jr_iload_n 1 dX0_layDown_12 rfl rfl rfl ?_
  refine jr_aload_n 0 dX0_layDown_13 rfl rfl rfl ?_
  refine gf_X0_43 rfl hc_o hb_o dX0_layDown_14 rfl ?_
  refine jr_iload_n 3 dX0_layDown_17 rfl rfl rfl ?_
  obtain ⟨r_1, M_2, hc_1, hF⟩ := jbd_e hF
  refine jh_callV1 (v := .int r_1) (o := 2) (as := [.int a3]) (st := [.int a1, .int a2, .ref (ja E o 10)]) (JF_X1_sleepOf hB hc_1) cw_X0_118 (iv_X1_sleepOf) ⟨rfl, rfl, by decide, by decide⟩ rfl (hB 2 (by decide)) rfl rfl (Nat.le_of_ble_eq_true rfl) dX0_layDown_18 rfl ?_
  refine jr_iadd dX0_layDown_21 rfl ?_
  obtain ⟨hb_2, hF⟩ := jck_e hF
  refine jh_iast (ci := 0) (k := 9) hc_o hb_o (by decide) rfl rfl hb_2 dX0_layDown_22 rfl (fun M_3 eM_3 => ?_)
  have hF := jlet_e hF M_3 eM_3
  refine jr_iconst (v := 1) dX0_layDown_23 (by decide) rfl ?_
  refine jr_iload_n 3 dX0_layDown_24 rfl rfl rfl ?_
  refine jr_ishl dX0_layDown_25 rfl ?_
  refine jr_topi (fun x4_1 ex4_1 => ?_)
  have hF := jlet_e hF x4_1 ex4_1
  refine jr_istore (L' := [(4, .int x4_1), (0, .ref (ja E o 0)), (1, .int a1), (2, .int a2), (3, .int a3)]) dX0_layDown_26 (by decide) rfl rfl ?_
  refine jr_aload_n 1 dX0_layDown_28 rfl rfl rfl ?_
  refine jr_dup dX0_layDown_29 rfl rfl ?_
  refine gf_X0_53 rfl hc_o hb_o dX0_layDown_30 rfl ?_
  refine jr_iload 0 dX0_layDown_33 rfl rfl ?_
  refine jr_iconst (v := (-1)) dX0_layDown_35 (by decide) rfl ?_
  refine jr_ixor dX0_layDown_36 rfl ?_
  refine jr_iand dX0_layDown_37 rfl ?_
  refine pf_X0_53 rfl hc_o hb_o dX0_layDown_38 ⟨rfl, rfl⟩ rfl (fun M_4 eM_4 => ?_)
  have hF := jlet_e hF M_4 eM_4
  refine jr_aload_n 1 dX0_layDown_41 rfl rfl rfl ?_
  refine jr_dup dX0_layDown_42 rfl rfl ?_
  refine gf_X0_47 rfl hc_o hb_o dX0_layDown_43 rfl ?_
  refine jr_iload 0 dX0_layDown_46 rfl rfl ?_
  refine jr_iconst (v := (-1)) dX0_layDown_48 (by decide) rfl ?_
  refine jr_ixor dX0_layDown_49 rfl ?_
  refine jr_iand dX0_layDown_50 rfl ?_
  refine pf_X0_47 rfl hc_o hb_o dX0_layDown_51 ⟨rfl, rfl⟩ rfl (fun M_5 eM_5 => ?_)
  have hF := jlet_e hF M_5 eM_5
  refine jr_aload_n 1 dX0_layDown_54 rfl rfl rfl ?_
  refine jr_dup dX0_layDown_55 rfl rfl ?_
  refine gf_X0_50 rfl hc_o hb_o dX0_layDown_56 rfl ?_
  refine jr_iload 0 dX0_layDown_59 rfl rfl ?_
  refine jr_ior dX0_layDown_61 rfl ?_
  refine pf_X0_50 rfl hc_o hb_o dX0_layDown_62 ⟨rfl, rfl⟩ rfl (fun M_6 eM_6 => ?_)
  have hF := jlet_e hF M_6 eM_6
  exact jh_vret rfl dX0_layDown_65 hF
set_option maxHeartbeats 4000000 in
set_option maxRecDepth 100000 in
theorem JL_X0_fillPosts_9 {E : jx_E} (hB : ∀ o, o < 8 → jB E o) {o : Nat} (ho_o : o = 5 ∨ o = 7) {o1 : Nat} (ho_o1 : o1 = 3 ∨ o1 = 6) {y1 : Int32} {k : jx_M → Option (Unit × jx_M)} {r : Unit} {M' : jx_M} (hk : ∀ (M : jx_M), k M = some (r, M') → jJ E yX0_fillPosts cX0_fillPosts 5 none rm_X0_fillPosts (fun x M'' => x = none ∧ M'' = M') 113 [(0, .ref (ja E o 0)), (1, .int y1)] [] M) : ∀ (n : Nat) (z3 : Int32) (M : jx_M), L_X0_fillPosts_9 o o1 y1 k n z3 M = some (r, M') → jJ E yX0_fillPosts cX0_fillPosts 5 none rm_X0_fillPosts (fun x M'' => x = none ∧ M'' = M') 9 [(0, .ref (ja E o 0)), (1, .int y1), (2, .ref (ja E o1 0)), (3, .int z3)] [] M := by
  have hc_o : jx_c o = 0 := by rcases ho_o with rfl | rfl <;> rfl
  have hb_o : jB E o := hB o (by omega)
  have hc_o1 : jx_c o1 = 2 := by rcases ho_o1 with rfl | rfl <;> rfl
  have hb_o1 : jB E o1 := hB o1 (by omega)
  intro n
  induction n with
  | zero => intro z3 M hF; exact nomatch (show (none : Option (Unit × jx_M)) = some _ from hF)
  | succ n ih =>
    intro z3 M hF
    rw [L_X0_fillPosts_9.eq_2] at hF
    refine jr_iload_n 3 dX0_fillPosts_9 rfl rfl rfl ?_
    refine jr_aload_n 0 dX0_fillPosts_10 rfl rfl rfl ?_
    refine gf_X0_43 rfl hc_o hb_o dX0_fillPosts_11 rfl ?_
    refine gf_X0_85 rfl rfl (hB 2 (by decide)) dX0_fillPosts_14 rfl ?_
    refine jr_icmp_ge 113 dX0_fillPosts_17 (by decide) rfl (fun c1 => ?_) (fun c1 => ?_)
    · have hF := jif_p hF c1
      refine jr_sub [0, 1] rfl ?_
      exact hk M hF
    · have hF := jif_n hF c1
      refine jr_aload_n 0 dX0_fillPosts_20 rfl rfl rfl ?_
      refine gf_X0_25 rfl hc_o hb_o dX0_fillPosts_21 rfl ?_
      refine jr_iload_n 1 dX0_fillPosts_24 rfl rfl rfl ?_
      refine jr_iconst (v := 4) dX0_fillPosts_25 (by decide) rfl ?_
      refine jr_imul dX0_fillPosts_26 rfl ?_
      refine jr_iload_n 3 dX0_fillPosts_27 rfl rfl rfl ?_
      refine jr_iadd dX0_fillPosts_28 rfl ?_
      refine jr_iconst (v := 0) dX0_fillPosts_29 (by decide) rfl ?_
      obtain ⟨hb_2, hF⟩ := jck_e hF
      refine jh_iast (ci := 0) (k := 5) hc_o hb_o (by decide) rfl rfl hb_2 dX0_fillPosts_30 rfl (fun M_2 eM_2 => ?_)
      have hF := jlet_e hF M_2 eM_2
      refine jr_aload_n 0 dX0_fillPosts_31 rfl rfl rfl ?_
      refine gf_X0_34 rfl hc_o hb_o dX0_fillPosts_32 rfl ?_
      refine jr_iload_n 3 dX0_fillPosts_35 rfl rfl rfl ?_
      obtain ⟨hb_3, hF⟩ := jck_e hF
      refine jh_iald (ci := 0) (k := 8) hc_o hb_o (by decide) rfl rfl hb_3 dX0_fillPosts_36 rfl ?_
      refine jr_bipush (v := (-9)) dX0_fillPosts_37 (by decide) rfl ?_
      refine jr_icmp_ne 91 dX0_fillPosts_39 (by decide) rfl (fun c1 => ?_) (fun c1 => ?_)
      · have hF := jif_n hF c1
        refine jr_aload_n 0 dX0_fillPosts_91 rfl rfl rfl ?_
        refine gf_X0_22 rfl hc_o hb_o dX0_fillPosts_92 rfl ?_
        refine jr_iload_n 1 dX0_fillPosts_95 rfl rfl rfl ?_
        refine jr_iconst (v := 4) dX0_fillPosts_96 (by decide) rfl ?_
        refine jr_imul dX0_fillPosts_97 rfl ?_
        refine jr_iload_n 3 dX0_fillPosts_98 rfl rfl rfl ?_
        refine jr_iadd dX0_fillPosts_99 rfl ?_
        refine jr_aload_n 0 dX0_fillPosts_100 rfl rfl rfl ?_
        refine gf_X0_34 rfl hc_o hb_o dX0_fillPosts_101 rfl ?_
        refine jr_iload_n 3 dX0_fillPosts_104 rfl rfl rfl ?_
        obtain ⟨hb_4, hF⟩ := jck_e hF
        refine jh_iald (ci := 0) (k := 8) hc_o hb_o (by decide) rfl rfl hb_4 dX0_fillPosts_105 rfl ?_
        obtain ⟨hb_5, hF⟩ := jck_e hF
        refine jh_iast (ci := 0) (k := 4) hc_o hb_o (by decide) rfl rfl hb_5 dX0_fillPosts_106 rfl (fun M_3 eM_3 => ?_)
        have hF := jlet_e hF M_3 eM_3
        obtain ⟨x3_1, ex3_1⟩ : ∃ z : Int32, z = z3 + 1 := ⟨_, rfl⟩
        have hF := jlet_e hF x3_1 ex3_1
        refine jr_iinc (v := x3_1) (L' := [(3, .int x3_1), (0, .ref (ja E o 0)), (1, .int y1), (2, .ref (ja E o1 0))]) 3 dX0_fillPosts_107 rfl (by rw [ex3_1]; rfl) (by decide) rfl rfl ?_
        refine jr_goto 9 dX0_fillPosts_110 (by decide) ?_
        refine jr_sub [1, 2, 3, 0] rfl ?_
        exact ih x3_1 M_3 hF
      · have hF := jif_p hF c1
        refine jr_iload_n 1 dX0_fillPosts_42 rfl rfl rfl ?_
        refine jr_aload_n 2 dX0_fillPosts_43 rfl rfl rfl ?_
        refine gf_X0_96 rfl hc_o1 hb_o1 dX0_fillPosts_44 rfl ?_
        refine jr_iload_n 3 dX0_fillPosts_47 rfl rfl rfl ?_
        obtain ⟨hb_6, hF⟩ := jck_e hF
        refine jh_iald (ci := 2) (k := 3) hc_o1 hb_o1 (by decide) rfl rfl hb_6 dX0_fillPosts_48 rfl ?_
        refine jr_icmp_ge 91 dX0_fillPosts_49 (by decide) rfl (fun c1 => ?_) (fun c1 => ?_)
        · have hF := jif_p hF c1
          refine jr_aload_n 0 dX0_fillPosts_91 rfl rfl rfl ?_
          refine gf_X0_22 rfl hc_o hb_o dX0_fillPosts_92 rfl ?_
          refine jr_iload_n 1 dX0_fillPosts_95 rfl rfl rfl ?_
          refine jr_iconst (v := 4) dX0_fillPosts_96 (by decide) rfl ?_
          refine jr_imul dX0_fillPosts_97 rfl ?_
          refine jr_iload_n 3 dX0_fillPosts_98 rfl rfl rfl ?_
          refine jr_iadd dX0_fillPosts_99 rfl ?_
          refine jr_aload_n 0 dX0_fillPosts_100 rfl rfl rfl ?_
          refine gf_X0_34 rfl hc_o hb_o dX0_fillPosts_101 rfl ?_
          refine jr_iload_n 3 dX0_fillPosts_104 rfl rfl rfl ?_
          obtain ⟨hb_7, hF⟩ := jck_e hF
          refine jh_iald (ci := 0) (k := 8) hc_o hb_o (by decide) rfl rfl hb_7 dX0_fillPosts_105 rfl ?_
          obtain ⟨hb_8, hF⟩ := jck_e hF
          refine jh_iast (ci := 0) (k := 4) hc_o hb_o (by decide) rfl rfl hb_8 dX0_fillPosts_106 rfl (fun M_4 eM_4 => ?_)
          have hF := jlet_e hF M_4 eM_4
          obtain ⟨x3_2, ex3_2⟩ : ∃ z : Int32, z = z3 + 1 := ⟨_, rfl⟩
          have hF := jlet_e hF x3_2 ex3_2
          refine jr_iinc (v := x3_2) (L' := [(3, .int x3_2), (0, .ref (ja E o 0)), (1, .int y1), (2, .ref (ja E o1 0))]) 3 dX0_fillPosts_107 rfl (by rw [ex3_2]; rfl) (by decide) rfl rfl ?_
          refine jr_goto 9 dX0_fillPosts_110 (by decide) ?_
          refine jr_sub [1, 2, 3, 0] rfl ?_
          exact ih x3_2 M_4 hF
        · have hF := jif_n hF c1
          refine jr_aload_n 0 dX0_fillPosts_52 rfl rfl rfl ?_
          refine jr_iload_n 1 dX0_fillPosts_53 rfl rfl rfl ?_
          refine jr_iload_n 3 dX0_fillPosts_54 rfl rfl rfl ?_
          refine jr_aload_n 2 dX0_fillPosts_55 rfl rfl rfl ?_
          obtain ⟨r_1, M_5, hc_1, hF⟩ := jbd_e hF
          refine jh_callV1 (v := .int r_1) (o := o) (as := [.int y1, .int z3, .ref (ja E o1 0)]) (st := []) (JF_X0_chosenOf hB ho_o ho_o1 hc_1) cw_X0_99 (iv_X0_chosenOf) ⟨rfl, rfl, by decide, by decide⟩ (by rw [hc_o]; rfl) hb_o rfl rfl (Nat.le_of_ble_eq_true rfl) dX0_fillPosts_56 rfl ?_
          refine jr_istore (L' := [(4, .int r_1), (0, .ref (ja E o 0)), (1, .int y1), (2, .ref (ja E o1 0)), (3, .int z3)]) dX0_fillPosts_59 (by decide) rfl rfl ?_
          refine jr_iload 0 dX0_fillPosts_61 rfl rfl ?_
          refine jr_bipush (v := (-9)) dX0_fillPosts_63 (by decide) rfl ?_
          refine jr_icmp_ne 83 dX0_fillPosts_65 (by decide) rfl (fun c1 => ?_) (fun c1 => ?_)
          · have hF := jif_n hF c1
            refine jr_aload_n 1 dX0_fillPosts_83 rfl rfl rfl ?_
            refine jr_iload_n 2 dX0_fillPosts_84 rfl rfl rfl ?_
            refine jr_iload_n 4 dX0_fillPosts_85 rfl rfl rfl ?_
            refine jr_iload 0 dX0_fillPosts_86 rfl rfl ?_
            obtain ⟨r_2, M_6, hc_2, hF⟩ := jbd_e hF
            refine jh_callV0 (o := o) (as := [.int y1, .int z3, .int r_1]) (st := []) (JF_X0_layDown hB ho_o hc_2) cw_X0_103 (iv_X0_layDown) ⟨rfl, rfl, by decide, by decide⟩ (by rw [hc_o]; rfl) hb_o rfl rfl (Nat.le_of_ble_eq_true rfl) dX0_fillPosts_88 rfl ?_
            refine jr_aload_n 1 dX0_fillPosts_91 rfl rfl rfl ?_
            refine gf_X0_22 rfl hc_o hb_o dX0_fillPosts_92 rfl ?_
            refine jr_iload_n 2 dX0_fillPosts_95 rfl rfl rfl ?_
            refine jr_iconst (v := 4) dX0_fillPosts_96 (by decide) rfl ?_
            refine jr_imul dX0_fillPosts_97 rfl ?_
            refine jr_iload_n 4 dX0_fillPosts_98 rfl rfl rfl ?_
            refine jr_iadd dX0_fillPosts_99 rfl ?_
            refine jr_aload_n 1 dX0_fillPosts_100 rfl rfl rfl ?_
            refine gf_X0_34 rfl hc_o hb_o dX0_fillPosts_101 rfl ?_
            refine jr_iload_n 4 dX0_fillPosts_104 rfl rfl rfl ?_
            obtain ⟨hb_9, hF⟩ := jck_e hF
            refine jh_iald (ci := 0) (k := 8) hc_o hb_o (by decide) rfl rfl hb_9 dX0_fillPosts_105 rfl ?_
            obtain ⟨hb_10, hF⟩ := jck_e hF
            refine jh_iast (ci := 0) (k := 4) hc_o hb_o (by decide) rfl rfl hb_10 dX0_fillPosts_106 rfl (fun M_7 eM_7 => ?_)
            have hF := jlet_e hF M_7 eM_7
            obtain ⟨x3_3, ex3_3⟩ : ∃ z : Int32, z = z3 + 1 := ⟨_, rfl⟩
            have hF := jlet_e hF x3_3 ex3_3
            refine jr_iinc (v := x3_3) (L' := [(3, .int x3_3), (4, .int r_1), (0, .ref (ja E o 0)), (1, .int y1), (2, .ref (ja E o1 0))]) 4 dX0_fillPosts_107 rfl (by rw [ex3_3]; rfl) (by decide) rfl rfl ?_
            refine jr_goto 9 dX0_fillPosts_110 (by decide) ?_
            refine jr_sub [2, 3, 4, 0] rfl ?_
            exact ih x3_3 M_7 hF
          · have hF := jif_p hF c1
            refine jr_aload_n 1 dX0_fillPosts_68 rfl rfl rfl ?_
            refine gf_X0_9 rfl hc_o hb_o dX0_fillPosts_69 rfl ?_
            refine jr_iload_n 2 dX0_fillPosts_72 rfl rfl rfl ?_
            refine jr_dup2 dX0_fillPosts_73 rfl rfl rfl ?_
            obtain ⟨hb_11, hF⟩ := jck_e hF
            refine jh_iald (ci := 0) (k := 0) hc_o hb_o (by decide) rfl rfl hb_11 dX0_fillPosts_74 rfl ?_
            refine jr_iconst (v := 1) dX0_fillPosts_75 (by decide) rfl ?_
            refine jr_iload_n 4 dX0_fillPosts_76 rfl rfl rfl ?_
            refine jr_ishl dX0_fillPosts_77 rfl ?_
            refine jr_ior dX0_fillPosts_78 rfl ?_
            obtain ⟨hb_12, hF⟩ := jck_e hF
            refine jh_iast (ci := 0) (k := 0) hc_o hb_o (by decide) rfl rfl hb_12 dX0_fillPosts_79 rfl (fun M_8 eM_8 => ?_)
            have hF := jlet_e hF M_8 eM_8
            refine jr_goto 91 dX0_fillPosts_80 (by decide) ?_
            refine jr_aload_n 1 dX0_fillPosts_91 rfl rfl rfl ?_
            refine gf_X0_22 rfl hc_o hb_o dX0_fillPosts_92 rfl ?_
            refine jr_iload_n 2 dX0_fillPosts_95 rfl rfl rfl ?_
            refine jr_iconst (v := 4) dX0_fillPosts_96 (by decide) rfl ?_
            refine jr_imul dX0_fillPosts_97 rfl ?_
            refine jr_iload_n 4 dX0_fillPosts_98 rfl rfl rfl ?_
            refine jr_iadd dX0_fillPosts_99 rfl ?_
            refine jr_aload_n 1 dX0_fillPosts_100 rfl rfl rfl ?_
            refine gf_X0_34 rfl hc_o hb_o dX0_fillPosts_101 rfl ?_
            refine jr_iload_n 4 dX0_fillPosts_104 rfl rfl rfl ?_
            obtain ⟨hb_13, hF⟩ := jck_e hF
            refine jh_iald (ci := 0) (k := 8) hc_o hb_o (by decide) rfl rfl hb_13 dX0_fillPosts_105 rfl ?_
            obtain ⟨hb_14, hF⟩ := jck_e hF
            refine jh_iast (ci := 0) (k := 4) hc_o hb_o (by decide) rfl rfl hb_14 dX0_fillPosts_106 rfl (fun M_9 eM_9 => ?_)
            have hF := jlet_e hF M_9 eM_9
            obtain ⟨x3_4, ex3_4⟩ : ∃ z : Int32, z = z3 + 1 := ⟨_, rfl⟩
            have hF := jlet_e hF x3_4 ex3_4
            refine jr_iinc (v := x3_4) (L' := [(3, .int x3_4), (4, .int r_1), (0, .ref (ja E o 0)), (1, .int y1), (2, .ref (ja E o1 0))]) 4 dX0_fillPosts_107 rfl (by rw [ex3_4]; rfl) (by decide) rfl rfl ?_
            refine jr_goto 9 dX0_fillPosts_110 (by decide) ?_
            refine jr_sub [2, 3, 4, 0] rfl ?_
            exact ih x3_4 M_9 hF
set_option maxHeartbeats 4000000 in
set_option maxRecDepth 100000 in
theorem JF_X0_fillPosts {E : jx_E} (hB : ∀ o, o < 8 → jB E o) {o : Nat} (ho_o : o = 5 ∨ o = 7) {o1 : Nat} (ho_o1 : o1 = 3 ∨ o1 = 6) {a1 : Int32} {M : jx_M} {r : Unit} {M' : jx_M} (hF : F_X0_fillPosts o a1 o1 M = some (r, M')) : jC E yX0_fillPosts cX0_fillPosts 5 none rm_X0_fillPosts [.ref (ja E o 0), .int a1, .ref (ja E o1 0)] M (fun x M'' => x = none ∧ M'' = M') := by
  have hc_o : jx_c o = 0 := by rcases ho_o with rfl | rfl <;> rfl
  have hb_o : jB E o := hB o (by omega)
  have hc_o1 : jx_c o1 = 2 := by rcases ho_o1 with rfl | rfl <;> rfl
  have hb_o1 : jB E o1 := hB o1 (by omega)
  refine jC.ofJ (L := [(0, .ref (ja E o 0)), (1, .int a1), (2, .ref (ja E o1 0))]) (by decide +kernel) (Nat.le_of_ble_eq_true rfl) rfl ?_
  unfold F_X0_fillPosts at hF
  refine jr_aload_n 0 dX0_fillPosts_0 rfl rfl rfl ?_
  refine gf_X0_9 rfl hc_o hb_o dX0_fillPosts_1 rfl ?_
  refine jr_iload_n 1 dX0_fillPosts_4 rfl rfl rfl ?_
  refine jr_iconst (v := 0) dX0_fillPosts_5 (by decide) rfl ?_
  obtain ⟨hb_1, hF⟩ := jck_e hF
  refine jh_iast (ci := 0) (k := 0) hc_o hb_o (by decide) rfl rfl hb_1 dX0_fillPosts_6 rfl (fun M_1 eM_1 => ?_)
  have hF := jlet_e hF M_1 eM_1
  refine jr_iconst (v := 0) dX0_fillPosts_7 (by decide) rfl ?_
  refine jr_istore_n (L' := [(3, .int 0), (0, .ref (ja E o 0)), (1, .int a1), (2, .ref (ja E o1 0))]) dX0_fillPosts_8 rfl (by decide) rfl rfl ?_
  refine jr_sub [1, 2, 3, 0] rfl ?_
  refine JL_X0_fillPosts_9 hB ho_o ho_o1 (fun M_10 hF => ?_) jfu 0 M_1 hF
  refine jr_aload_n 0 dX0_fillPosts_113 rfl rfl rfl ?_
  refine jr_dup dX0_fillPosts_114 rfl rfl ?_
  refine gf_X0_15 rfl hc_o hb_o dX0_fillPosts_115 rfl ?_
  refine jr_aload_n 0 dX0_fillPosts_118 rfl rfl rfl ?_
  refine gf_X0_9 rfl hc_o hb_o dX0_fillPosts_119 rfl ?_
  refine jr_iload_n 1 dX0_fillPosts_122 rfl rfl rfl ?_
  obtain ⟨hb_15, hF⟩ := jck_e hF
  refine jh_iald (ci := 0) (k := 0) hc_o hb_o (by decide) rfl rfl hb_15 dX0_fillPosts_123 rfl ?_
  obtain ⟨r_3, M_11, hc_3, hF⟩ := jbd_e hF
  refine jh_callS1 (v := .int r_3) (as := [.int (jx_r M_10 o 0 a1)]) (st := [.int (M_10 o 1 0), .ref (ja E o 0)]) (JF_J6_bitCount_0f7a4  hc_3) cw_X0_56 (iv_J6_bitCount_0f7a4) ⟨rfl, rfl, by decide, by decide⟩ rfl rfl (Nat.le_of_ble_eq_true rfl) dX0_fillPosts_124 rfl ?_
  refine jr_iadd dX0_fillPosts_127 rfl ?_
  refine pf_X0_15 rfl hc_o hb_o dX0_fillPosts_128 ⟨rfl, rfl⟩ rfl (fun M_12 eM_12 => ?_)
  have hF := jlet_e hF M_12 eM_12
  exact jh_vret rfl dX0_fillPosts_131 hF
set_option maxHeartbeats 4000000 in
set_option maxRecDepth 100000 in
theorem JF_X0_stateNow {E : jx_E} (hB : ∀ o, o < 8 → jB E o) {o : Nat} (ho_o : o = 5 ∨ o = 7) {a1 : Int32} {a2 : Int32} {M : jx_M} {r : Int32} {M' : jx_M} (hF : F_X0_stateNow o a1 a2 M = some (r, M')) : jC E yX0_stateNow cX0_stateNow 3 (some FieldType.int) rm_X0_stateNow [.ref (ja E o 0), .int a1, .int a2] M (fun x M'' => x = some (.int r) ∧ M'' = M') := by
  have hc_o : jx_c o = 0 := by rcases ho_o with rfl | rfl <;> rfl
  have hb_o : jB E o := hB o (by omega)
  refine jC.ofJ (L := [(0, .ref (ja E o 0)), (1, .int a1), (2, .int a2)]) (by decide +kernel) (Nat.le_of_ble_eq_true rfl) rfl ?_
  unfold F_X0_stateNow at hF
  refine jr_aload_n 0 dX0_stateNow_0 rfl rfl rfl ?_
  refine gf_X0_47 rfl hc_o hb_o dX0_stateNow_1 rfl ?_
  refine jr_iload_n 1 dX0_stateNow_4 rfl rfl rfl ?_
  refine jr_ishr dX0_stateNow_5 rfl ?_
  refine jr_iconst (v := 1) dX0_stateNow_6 (by decide) rfl ?_
  refine jr_iand dX0_stateNow_7 rfl ?_
  refine jr_if_eq 13 dX0_stateNow_8 (by decide) rfl (fun c1 => ?_) (fun c1 => ?_)
  · have hF := jif_p hF c1
    refine jr_aload_n 0 dX0_stateNow_13 rfl rfl rfl ?_
    refine gf_X0_50 rfl hc_o hb_o dX0_stateNow_14 rfl ?_
    refine jr_iload_n 1 dX0_stateNow_17 rfl rfl rfl ?_
    refine jr_ishr dX0_stateNow_18 rfl ?_
    refine jr_iconst (v := 1) dX0_stateNow_19 (by decide) rfl ?_
    refine jr_iand dX0_stateNow_20 rfl ?_
    refine jr_if_eq 26 dX0_stateNow_21 (by decide) rfl (fun c1 => ?_) (fun c1 => ?_)
    · have hF := jif_p hF c1
      refine jr_iload_n 2 dX0_stateNow_26 rfl rfl rfl ?_
      refine jr_aload_n 0 dX0_stateNow_27 rfl rfl rfl ?_
      refine gf_X0_43 rfl hc_o hb_o dX0_stateNow_28 rfl ?_
      refine gf_X0_93 rfl rfl (hB 2 (by decide)) dX0_stateNow_31 rfl ?_
      refine jr_iload_n 1 dX0_stateNow_34 rfl rfl rfl ?_
      obtain ⟨hb_1, hF⟩ := jck_e hF
      refine jh_iald (ci := 1) (k := 4) rfl (hB 2 (by decide)) (by decide) rfl rfl hb_1 dX0_stateNow_35 rfl ?_
      refine jr_icmp_ge 43 dX0_stateNow_36 (by decide) rfl (fun c1 => ?_) (fun c1 => ?_)
      · have hF := jif_p hF c1
        refine jr_iconst (v := 3) dX0_stateNow_43 (by decide) rfl ?_
        exact jh_iret rfl dX0_stateNow_44 hF
      · have hF := jif_n hF c1
        refine jr_iconst (v := 0) dX0_stateNow_39 (by decide) rfl ?_
        refine jr_goto 44 dX0_stateNow_40 (by decide) ?_
        exact jh_iret rfl dX0_stateNow_44 hF
    · have hF := jif_n hF c1
      refine jr_iconst (v := 2) dX0_stateNow_24 (by decide) rfl ?_
      exact jh_iret rfl dX0_stateNow_25 hF
  · have hF := jif_n hF c1
    refine jr_iconst (v := 1) dX0_stateNow_11 (by decide) rfl ?_
    exact jh_iret rfl dX0_stateNow_12 hF
set_option maxHeartbeats 4000000 in
set_option maxRecDepth 100000 in
theorem JL_X0_noteAndGrowOld_2 {E : jx_E} (hB : ∀ o, o < 8 → jB E o) {o : Nat} (ho_o : o = 5 ∨ o = 7) {y1 : Int32} {k : jx_M → Option (Unit × jx_M)} {r : Unit} {M' : jx_M} (hk : ∀ (M : jx_M), k M = some (r, M') → jJ E yX0_noteAndGrowOld cX0_noteAndGrowOld 4 none rm_X0_noteAndGrowOld (fun x M'' => x = none ∧ M'' = M') 102 [] [] M) : ∀ (n : Nat) (z2 : Int32) (M : jx_M), L_X0_noteAndGrowOld_2 o y1 k n z2 M = some (r, M') → jJ E yX0_noteAndGrowOld cX0_noteAndGrowOld 4 none rm_X0_noteAndGrowOld (fun x M'' => x = none ∧ M'' = M') 2 [(0, .ref (ja E o 0)), (1, .int y1), (2, .int z2)] [] M := by
  have hc_o : jx_c o = 0 := by rcases ho_o with rfl | rfl <;> rfl
  have hb_o : jB E o := hB o (by omega)
  intro n
  induction n with
  | zero => intro z2 M hF; exact nomatch (show (none : Option (Unit × jx_M)) = some _ from hF)
  | succ n ih =>
    intro z2 M hF
    rw [L_X0_noteAndGrowOld_2.eq_2] at hF
    refine jr_iload_n 2 dX0_noteAndGrowOld_2 rfl rfl rfl ?_
    refine jr_aload_n 0 dX0_noteAndGrowOld_3 rfl rfl rfl ?_
    refine gf_X0_43 rfl hc_o hb_o dX0_noteAndGrowOld_4 rfl ?_
    refine gf_X0_90 rfl rfl (hB 2 (by decide)) dX0_noteAndGrowOld_7 rfl ?_
    refine jr_icmp_ge 102 dX0_noteAndGrowOld_10 (by decide) rfl (fun c1 => ?_) (fun c1 => ?_)
    · have hF := jif_p hF c1
      refine jr_sub [] rfl ?_
      exact hk M hF
    · have hF := jif_n hF c1
      refine jr_iload_n 1 dX0_noteAndGrowOld_13 rfl rfl rfl ?_
      refine jr_bipush (v := 6) dX0_noteAndGrowOld_14 (by decide) rfl ?_
      refine jr_imul dX0_noteAndGrowOld_16 rfl ?_
      refine jr_iload_n 2 dX0_noteAndGrowOld_17 rfl rfl rfl ?_
      refine jr_iadd dX0_noteAndGrowOld_18 rfl ?_
      refine jr_topi (fun x3_1 ex3_1 => ?_)
      have hF := jlet_e hF x3_1 ex3_1
      refine jr_istore_n (L' := [(3, .int x3_1), (0, .ref (ja E o 0)), (1, .int y1), (2, .int z2)]) dX0_noteAndGrowOld_19 rfl (by decide) rfl rfl ?_
      refine jr_aload_n 1 dX0_noteAndGrowOld_20 rfl rfl rfl ?_
      refine gf_X0_28 rfl hc_o hb_o dX0_noteAndGrowOld_21 rfl ?_
      refine jr_iload_n 0 dX0_noteAndGrowOld_24 rfl rfl rfl ?_
      refine jr_aload_n 1 dX0_noteAndGrowOld_25 rfl rfl rfl ?_
      refine jr_iload_n 3 dX0_noteAndGrowOld_26 rfl rfl rfl ?_
      refine jr_iload_n 2 dX0_noteAndGrowOld_27 rfl rfl rfl ?_
      obtain ⟨r_1, M_1, hc_1, hF⟩ := jbd_e hF
      refine jh_callV1 (v := .int r_1) (o := o) (as := [.int z2, .int y1]) (st := [.int x3_1, .ref (ja E o 7)]) (JF_X0_stateNow hB ho_o hc_1) cw_X0_129 (iv_X0_stateNow) ⟨rfl, rfl, by decide, by decide⟩ (by rw [hc_o]; rfl) hb_o rfl rfl (Nat.le_of_ble_eq_true rfl) dX0_noteAndGrowOld_28 rfl ?_
      obtain ⟨hb_1, hF⟩ := jck_e hF
      refine jh_iast (ci := 0) (k := 6) hc_o hb_o (by decide) rfl rfl hb_1 dX0_noteAndGrowOld_31 rfl (fun M_2 eM_2 => ?_)
      have hF := jlet_e hF M_2 eM_2
      refine jr_aload_n 1 dX0_noteAndGrowOld_32 rfl rfl rfl ?_
      refine gf_X0_28 rfl hc_o hb_o dX0_noteAndGrowOld_33 rfl ?_
      refine jr_iload_n 0 dX0_noteAndGrowOld_36 rfl rfl rfl ?_
      obtain ⟨hb_2, hF⟩ := jck_e hF
      refine jh_iald (ci := 0) (k := 6) hc_o hb_o (by decide) rfl rfl hb_2 dX0_noteAndGrowOld_37 rfl ?_
      refine jr_iconst (v := 1) dX0_noteAndGrowOld_38 (by decide) rfl ?_
      refine jr_icmp_ne 84 dX0_noteAndGrowOld_39 (by decide) rfl (fun c1 => ?_) (fun c1 => ?_)
      · have hF := jif_n hF c1
        refine jr_aload_n 1 dX0_noteAndGrowOld_84 rfl rfl rfl ?_
        refine gf_X0_31 rfl hc_o hb_o dX0_noteAndGrowOld_85 rfl ?_
        refine jr_iload_n 0 dX0_noteAndGrowOld_88 rfl rfl rfl ?_
        refine jr_aload_n 1 dX0_noteAndGrowOld_89 rfl rfl rfl ?_
        refine gf_X0_40 rfl hc_o hb_o dX0_noteAndGrowOld_90 rfl ?_
        refine jr_iload_n 3 dX0_noteAndGrowOld_93 rfl rfl rfl ?_
        obtain ⟨hb_3, hF⟩ := jck_e hF
        refine jh_iald (ci := 0) (k := 10) hc_o hb_o (by decide) rfl rfl hb_3 dX0_noteAndGrowOld_94 rfl ?_
        obtain ⟨hb_4, hF⟩ := jck_e hF
        refine jh_iast (ci := 0) (k := 7) hc_o hb_o (by decide) rfl rfl hb_4 dX0_noteAndGrowOld_95 rfl (fun M_3 eM_3 => ?_)
        have hF := jlet_e hF M_3 eM_3
        obtain ⟨x2_1, ex2_1⟩ : ∃ z : Int32, z = z2 + 1 := ⟨_, rfl⟩
        have hF := jlet_e hF x2_1 ex2_1
        refine jr_iinc (v := x2_1) (L' := [(2, .int x2_1), (3, .int x3_1), (0, .ref (ja E o 0)), (1, .int y1)]) 3 dX0_noteAndGrowOld_96 rfl (by rw [ex2_1]; rfl) (by decide) rfl rfl ?_
        refine jr_goto 2 dX0_noteAndGrowOld_99 (by decide) ?_
        refine jr_sub [2, 3, 0] rfl ?_
        exact ih x2_1 M_3 hF
      · have hF := jif_p hF c1
        refine jr_aload_n 1 dX0_noteAndGrowOld_42 rfl rfl rfl ?_
        refine gf_X0_40 rfl hc_o hb_o dX0_noteAndGrowOld_43 rfl ?_
        refine jr_iload_n 3 dX0_noteAndGrowOld_46 rfl rfl rfl ?_
        refine jr_dup2 dX0_noteAndGrowOld_47 rfl rfl rfl ?_
        obtain ⟨hb_5, hF⟩ := jck_e hF
        refine jh_iald (ci := 0) (k := 10) hc_o hb_o (by decide) rfl rfl hb_5 dX0_noteAndGrowOld_48 rfl ?_
        refine jr_iconst (v := 1) dX0_noteAndGrowOld_49 (by decide) rfl ?_
        refine jr_iadd dX0_noteAndGrowOld_50 rfl ?_
        obtain ⟨hb_6, hF⟩ := jck_e hF
        refine jh_iast (ci := 0) (k := 10) hc_o hb_o (by decide) rfl rfl hb_6 dX0_noteAndGrowOld_51 rfl (fun M_4 eM_4 => ?_)
        have hF := jlet_e hF M_4 eM_4
        refine jr_aload_n 1 dX0_noteAndGrowOld_52 rfl rfl rfl ?_
        refine gf_X0_40 rfl hc_o hb_o dX0_noteAndGrowOld_53 rfl ?_
        refine jr_iload_n 3 dX0_noteAndGrowOld_56 rfl rfl rfl ?_
        obtain ⟨hb_7, hF⟩ := jck_e hF
        refine jh_iald (ci := 0) (k := 10) hc_o hb_o (by decide) rfl rfl hb_7 dX0_noteAndGrowOld_57 rfl ?_
        refine jr_aload_n 1 dX0_noteAndGrowOld_58 rfl rfl rfl ?_
        refine gf_X0_43 rfl hc_o hb_o dX0_noteAndGrowOld_59 rfl ?_
        refine gf_X0_132 rfl rfl (hB 2 (by decide)) dX0_noteAndGrowOld_62 rfl ?_
        refine jr_iload_n 3 dX0_noteAndGrowOld_65 rfl rfl rfl ?_
        obtain ⟨hb_8, hF⟩ := jck_e hF
        refine jh_iald (ci := 1) (k := 5) rfl (hB 2 (by decide)) (by decide) rfl rfl hb_8 dX0_noteAndGrowOld_66 rfl ?_
        refine jr_icmp_lt 84 dX0_noteAndGrowOld_67 (by decide) rfl (fun c1 => ?_) (fun c1 => ?_)
        · have hF := jif_p hF c1
          refine jr_aload_n 1 dX0_noteAndGrowOld_84 rfl rfl rfl ?_
          refine gf_X0_31 rfl hc_o hb_o dX0_noteAndGrowOld_85 rfl ?_
          refine jr_iload_n 0 dX0_noteAndGrowOld_88 rfl rfl rfl ?_
          refine jr_aload_n 1 dX0_noteAndGrowOld_89 rfl rfl rfl ?_
          refine gf_X0_40 rfl hc_o hb_o dX0_noteAndGrowOld_90 rfl ?_
          refine jr_iload_n 3 dX0_noteAndGrowOld_93 rfl rfl rfl ?_
          obtain ⟨hb_9, hF⟩ := jck_e hF
          refine jh_iald (ci := 0) (k := 10) hc_o hb_o (by decide) rfl rfl hb_9 dX0_noteAndGrowOld_94 rfl ?_
          obtain ⟨hb_10, hF⟩ := jck_e hF
          refine jh_iast (ci := 0) (k := 7) hc_o hb_o (by decide) rfl rfl hb_10 dX0_noteAndGrowOld_95 rfl (fun M_5 eM_5 => ?_)
          have hF := jlet_e hF M_5 eM_5
          obtain ⟨x2_2, ex2_2⟩ : ∃ z : Int32, z = z2 + 1 := ⟨_, rfl⟩
          have hF := jlet_e hF x2_2 ex2_2
          refine jr_iinc (v := x2_2) (L' := [(2, .int x2_2), (3, .int x3_1), (0, .ref (ja E o 0)), (1, .int y1)]) 3 dX0_noteAndGrowOld_96 rfl (by rw [ex2_2]; rfl) (by decide) rfl rfl ?_
          refine jr_goto 2 dX0_noteAndGrowOld_99 (by decide) ?_
          refine jr_sub [2, 3, 0] rfl ?_
          exact ih x2_2 M_5 hF
        · have hF := jif_n hF c1
          refine jr_aload_n 1 dX0_noteAndGrowOld_70 rfl rfl rfl ?_
          refine jr_dup dX0_noteAndGrowOld_71 rfl rfl ?_
          refine gf_X0_47 rfl hc_o hb_o dX0_noteAndGrowOld_72 rfl ?_
          refine jr_iconst (v := 1) dX0_noteAndGrowOld_75 (by decide) rfl ?_
          refine jr_iload_n 3 dX0_noteAndGrowOld_76 rfl rfl rfl ?_
          refine jr_ishl dX0_noteAndGrowOld_77 rfl ?_
          refine jr_iconst (v := (-1)) dX0_noteAndGrowOld_78 (by decide) rfl ?_
          refine jr_ixor dX0_noteAndGrowOld_79 rfl ?_
          refine jr_iand dX0_noteAndGrowOld_80 rfl ?_
          refine pf_X0_47 rfl hc_o hb_o dX0_noteAndGrowOld_81 ⟨rfl, rfl⟩ rfl (fun M_6 eM_6 => ?_)
          have hF := jlet_e hF M_6 eM_6
          refine jr_aload_n 1 dX0_noteAndGrowOld_84 rfl rfl rfl ?_
          refine gf_X0_31 rfl hc_o hb_o dX0_noteAndGrowOld_85 rfl ?_
          refine jr_iload_n 0 dX0_noteAndGrowOld_88 rfl rfl rfl ?_
          refine jr_aload_n 1 dX0_noteAndGrowOld_89 rfl rfl rfl ?_
          refine gf_X0_40 rfl hc_o hb_o dX0_noteAndGrowOld_90 rfl ?_
          refine jr_iload_n 3 dX0_noteAndGrowOld_93 rfl rfl rfl ?_
          obtain ⟨hb_11, hF⟩ := jck_e hF
          refine jh_iald (ci := 0) (k := 10) hc_o hb_o (by decide) rfl rfl hb_11 dX0_noteAndGrowOld_94 rfl ?_
          obtain ⟨hb_12, hF⟩ := jck_e hF
          refine jh_iast (ci := 0) (k := 7) hc_o hb_o (by decide) rfl rfl hb_12 dX0_noteAndGrowOld_95 rfl (fun M_7 eM_7 => ?_)
          have hF := jlet_e hF M_7 eM_7
          obtain ⟨x2_3, ex2_3⟩ : ∃ z : Int32, z = z2 + 1 := ⟨_, rfl⟩
          have hF := jlet_e hF x2_3 ex2_3
          refine jr_iinc (v := x2_3) (L' := [(2, .int x2_3), (3, .int x3_1), (0, .ref (ja E o 0)), (1, .int y1)]) 3 dX0_noteAndGrowOld_96 rfl (by rw [ex2_3]; rfl) (by decide) rfl rfl ?_
          refine jr_goto 2 dX0_noteAndGrowOld_99 (by decide) ?_
          refine jr_sub [2, 3, 0] rfl ?_
          exact ih x2_3 M_7 hF
set_option maxHeartbeats 4000000 in
set_option maxRecDepth 100000 in
theorem JF_X0_noteAndGrowOld {E : jx_E} (hB : ∀ o, o < 8 → jB E o) {o : Nat} (ho_o : o = 5 ∨ o = 7) {a1 : Int32} {M : jx_M} {r : Unit} {M' : jx_M} (hF : F_X0_noteAndGrowOld o a1 M = some (r, M')) : jC E yX0_noteAndGrowOld cX0_noteAndGrowOld 4 none rm_X0_noteAndGrowOld [.ref (ja E o 0), .int a1] M (fun x M'' => x = none ∧ M'' = M') := by
  have hc_o : jx_c o = 0 := by rcases ho_o with rfl | rfl <;> rfl
  have hb_o : jB E o := hB o (by omega)
  refine jC.ofJ (L := [(0, .ref (ja E o 0)), (1, .int a1)]) (by decide +kernel) (Nat.le_of_ble_eq_true rfl) rfl ?_
  unfold F_X0_noteAndGrowOld at hF
  refine jr_iconst (v := 0) dX0_noteAndGrowOld_0 (by decide) rfl ?_
  refine jr_istore_n (L' := [(2, .int 0), (0, .ref (ja E o 0)), (1, .int a1)]) dX0_noteAndGrowOld_1 rfl (by decide) rfl rfl ?_
  refine jr_sub [1, 2, 0] rfl ?_
  refine JL_X0_noteAndGrowOld_2 hB ho_o (fun M_8 hF => ?_) jfu 0 M hF
  exact jh_vret rfl dX0_noteAndGrowOld_102 hF
set_option maxHeartbeats 4000000 in
set_option maxRecDepth 100000 in
theorem JL_X0_run_37 {E : jx_E} (hB : ∀ o, o < 8 → jB E o) {o : Nat} (ho_o : o = 5 ∨ o = 7) {o1 : Nat} (ho_o1 : o1 = 3 ∨ o1 = 6) {y2 : Int32} {y3 : Int32} {k : jx_M → Option (Unit × jx_M)} {r : Unit} {M' : jx_M} (hk : ∀ (M : jx_M), k M = some (r, M') → jJ E yX0_run cX0_run 4 none rm_X0_run (fun x M'' => x = none ∧ M'' = M') 104 [] [] M) : ∀ (n : Nat) (M : jx_M), L_X0_run_37 o o1 y2 y3 k n M = some (r, M') → jJ E yX0_run cX0_run 4 none rm_X0_run (fun x M'' => x = none ∧ M'' = M') 37 [(0, .ref (ja E o 0)), (1, .ref (ja E o1 0)), (2, .int y2), (3, .int y3)] [] M := by
  have hc_o : jx_c o = 0 := by rcases ho_o with rfl | rfl <;> rfl
  have hb_o : jB E o := hB o (by omega)
  have hc_o1 : jx_c o1 = 2 := by rcases ho_o1 with rfl | rfl <;> rfl
  have hb_o1 : jB E o1 := hB o1 (by omega)
  intro n
  induction n with
  | zero => intro M hF; exact nomatch (show (none : Option (Unit × jx_M)) = some _ from hF)
  | succ n ih =>
    intro M hF
    rw [L_X0_run_37.eq_2] at hF
    refine jr_aload_n 0 dX0_run_37 rfl rfl rfl ?_
    refine gf_X0_19 rfl hc_o hb_o dX0_run_38 rfl ?_
    refine jr_iload_n 2 dX0_run_41 rfl rfl rfl ?_
    refine jr_icmp_gt 104 dX0_run_42 (by decide) rfl (fun c1 => ?_) (fun c1 => ?_)
    · have hF := jif_p hF c1
      refine jr_sub [] rfl ?_
      exact hk M hF
    · have hF := jif_n hF c1
      refine jr_aload_n 0 dX0_run_45 rfl rfl rfl ?_
      refine gf_X0_19 rfl hc_o hb_o dX0_run_46 rfl ?_
      refine jr_bipush (v := 40) dX0_run_49 (by decide) rfl ?_
      refine jr_icmp_ge 104 dX0_run_51 (by decide) rfl (fun c1 => ?_) (fun c1 => ?_)
      · have hF := jif_p hF c1
        refine jr_sub [] rfl ?_
        exact hk M hF
      · have hF := jif_n hF c1
        refine jr_aload_n 0 dX0_run_54 rfl rfl rfl ?_
        refine gf_X0_15 rfl hc_o hb_o dX0_run_55 rfl ?_
        refine jr_iload_n 3 dX0_run_58 rfl rfl rfl ?_
        refine jr_icmp_ge 104 dX0_run_59 (by decide) rfl (fun c1 => ?_) (fun c1 => ?_)
        · have hF := jif_p hF c1
          refine jr_sub [] rfl ?_
          exact hk M hF
        · have hF := jif_n hF c1
          refine jr_aload_n 0 dX0_run_62 rfl rfl rfl ?_
          refine jr_aload_n 0 dX0_run_63 rfl rfl rfl ?_
          refine gf_X0_19 rfl hc_o hb_o dX0_run_64 rfl ?_
          refine jr_aload_n 1 dX0_run_67 rfl rfl rfl ?_
          refine gf_X0_68 rfl hc_o1 hb_o1 dX0_run_68 rfl ?_
          obtain ⟨r_3, M_7, hc_3, hF⟩ := jbd_e hF
          refine jh_callV0 (o := o) (as := [.int (M o 2 0), .int (M o1 1 0)]) (st := []) (JF_X0_wakeAndBear hB ho_o hc_3) cw_X0_73 (iv_X0_wakeAndBear) ⟨rfl, rfl, by decide, by decide⟩ (by rw [hc_o]; rfl) hb_o rfl rfl (Nat.le_of_ble_eq_true rfl) dX0_run_71 rfl ?_
          refine jr_aload_n 0 dX0_run_74 rfl rfl rfl ?_
          refine jr_aload_n 0 dX0_run_75 rfl rfl rfl ?_
          refine gf_X0_19 rfl hc_o hb_o dX0_run_76 rfl ?_
          refine jr_aload_n 1 dX0_run_79 rfl rfl rfl ?_
          obtain ⟨r_4, M_8, hc_4, hF⟩ := jbd_e hF
          refine jh_callV0 (o := o) (as := [.int (M_7 o 2 0), .ref (ja E o1 0)]) (st := []) (JF_X0_fillPosts hB ho_o ho_o1 hc_4) cw_X0_77 (iv_X0_fillPosts) ⟨rfl, rfl, by decide, by decide⟩ (by rw [hc_o]; rfl) hb_o rfl rfl (Nat.le_of_ble_eq_true rfl) dX0_run_80 rfl ?_
          refine jr_aload_n 0 dX0_run_83 rfl rfl rfl ?_
          refine jr_aload_n 0 dX0_run_84 rfl rfl rfl ?_
          refine gf_X0_19 rfl hc_o hb_o dX0_run_85 rfl ?_
          obtain ⟨r_5, M_9, hc_5, hF⟩ := jbd_e hF
          refine jh_callV0 (o := o) (as := [.int (M_8 o 2 0)]) (st := []) (JF_X0_noteAndGrowOld hB ho_o hc_5) cw_X0_81 (iv_X0_noteAndGrowOld) ⟨rfl, rfl, by decide, by decide⟩ (by rw [hc_o]; rfl) hb_o rfl rfl (Nat.le_of_ble_eq_true rfl) dX0_run_88 rfl ?_
          refine jr_aload_n 0 dX0_run_91 rfl rfl rfl ?_
          refine jr_dup dX0_run_92 rfl rfl ?_
          refine gf_X0_19 rfl hc_o hb_o dX0_run_93 rfl ?_
          refine jr_iconst (v := 1) dX0_run_96 (by decide) rfl ?_
          refine jr_iadd dX0_run_97 rfl ?_
          refine pf_X0_19 rfl hc_o hb_o dX0_run_98 ⟨rfl, rfl⟩ rfl (fun M_10 eM_10 => ?_)
          have hF := jlet_e hF M_10 eM_10
          refine jr_goto 37 dX0_run_101 (by decide) ?_
          refine jr_sub [0, 1, 2, 3] rfl ?_
          exact ih M_10 hF
set_option maxHeartbeats 4000000 in
set_option maxRecDepth 100000 in
theorem JF_X0_run {E : jx_E} (hB : ∀ o, o < 8 → jB E o) {o : Nat} (ho_o : o = 5 ∨ o = 7) {o1 : Nat} (ho_o1 : o1 = 3 ∨ o1 = 6) {a2 : Int32} {a3 : Int32} {M : jx_M} {r : Unit} {M' : jx_M} (hF : F_X0_run o o1 a2 a3 M = some (r, M')) : jC E yX0_run cX0_run 4 none rm_X0_run [.ref (ja E o 0), .ref (ja E o1 0), .int a2, .int a3] M (fun x M'' => x = none ∧ M'' = M') := by
  have hc_o : jx_c o = 0 := by rcases ho_o with rfl | rfl <;> rfl
  have hb_o : jB E o := hB o (by omega)
  have hc_o1 : jx_c o1 = 2 := by rcases ho_o1 with rfl | rfl <;> rfl
  have hb_o1 : jB E o1 := hB o1 (by omega)
  refine jC.ofJ (L := [(0, .ref (ja E o 0)), (1, .ref (ja E o1 0)), (2, .int a2), (3, .int a3)]) (by decide +kernel) (Nat.le_of_ble_eq_true rfl) rfl ?_
  unfold F_X0_run at hF
  refine jr_aload_n 0 dX0_run_0 rfl rfl rfl ?_
  refine jr_iconst (v := 0) dX0_run_1 (by decide) rfl ?_
  refine pf_X0_47 rfl hc_o hb_o dX0_run_2 ⟨rfl, rfl⟩ rfl (fun M_1 eM_1 => ?_)
  have hF := jlet_e hF M_1 eM_1
  refine jr_aload_n 0 dX0_run_5 rfl rfl rfl ?_
  refine jr_iconst (v := 0) dX0_run_6 (by decide) rfl ?_
  refine pf_X0_50 rfl hc_o hb_o dX0_run_7 ⟨rfl, rfl⟩ rfl (fun M_2 eM_2 => ?_)
  have hF := jlet_e hF M_2 eM_2
  refine jr_aload_n 0 dX0_run_10 rfl rfl rfl ?_
  refine jr_iconst (v := 0) dX0_run_11 (by decide) rfl ?_
  refine pf_X0_15 rfl hc_o hb_o dX0_run_12 ⟨rfl, rfl⟩ rfl (fun M_3 eM_3 => ?_)
  have hF := jlet_e hF M_3 eM_3
  refine jr_aload_n 0 dX0_run_15 rfl rfl rfl ?_
  refine gf_X0_34 rfl hc_o hb_o dX0_run_16 rfl ?_
  refine jr_bipush (v := (-9)) dX0_run_19 (by decide) rfl ?_
  obtain ⟨r_1, M_4, hc_1, hF⟩ := jbd_e hF
  refine jh_callS0 (as := [.ref (ja E o 9), .int (-9)]) (st := []) (JF_J7_fill_53178 (ci := 0) hc_o hb_o (by decide) rfl rfl hc_1) cw_X0_62 (iv_J7_fill_53178) ⟨rfl, rfl, by decide, by decide⟩ rfl rfl (Nat.le_of_ble_eq_true rfl) dX0_run_21 rfl ?_
  refine jr_aload_n 0 dX0_run_24 rfl rfl rfl ?_
  refine gf_X0_40 rfl hc_o hb_o dX0_run_25 rfl ?_
  refine jr_iconst (v := 0) dX0_run_28 (by decide) rfl ?_
  obtain ⟨r_2, M_5, hc_2, hF⟩ := jbd_e hF
  refine jh_callS0 (as := [.ref (ja E o 11), .int 0]) (st := []) (JF_J7_fill_53178 (ci := 0) hc_o hb_o (by decide) rfl rfl hc_2) cw_X0_62 (iv_J7_fill_53178) ⟨rfl, rfl, by decide, by decide⟩ rfl rfl (Nat.le_of_ble_eq_true rfl) dX0_run_29 rfl ?_
  refine jr_aload_n 0 dX0_run_32 rfl rfl rfl ?_
  refine jr_iconst (v := 0) dX0_run_33 (by decide) rfl ?_
  refine pf_X0_19 rfl hc_o hb_o dX0_run_34 ⟨rfl, rfl⟩ rfl (fun M_6 eM_6 => ?_)
  have hF := jlet_e hF M_6 eM_6
  refine jr_sub [0, 1, 2, 3] rfl ?_
  refine JL_X0_run_37 hB ho_o ho_o1 (fun M_11 hF => ?_) jfu M_6 hF
  exact jh_vret rfl dX0_run_104 hF
set_option maxHeartbeats 4000000 in
set_option maxRecDepth 100000 in
theorem JF_X4_read {E : jx_E} (hB : ∀ o, o < 8 → jB E o) {a1 : Int32} {a2 : Int32} {M : jx_M} {r : Int32} {M' : jx_M} (hF : F_X4_read a1 a2 M = some (r, M')) : jC E yX4_read cX4_read 3 (some FieldType.int) rm_X4_read [.ref (ja E 1 0), .int a1, .int a2] M (fun x M'' => x = some (.int r) ∧ M'' = M') := by
  refine jC.ofJ (L := [(0, .ref (ja E 1 0)), (1, .int a1), (2, .int a2)]) (by decide +kernel) (Nat.le_of_ble_eq_true rfl) rfl ?_
  unfold F_X4_read at hF
  refine jr_aload_n 0 dX4_read_0 rfl rfl rfl ?_
  refine gf_X4_18 rfl rfl (hB 1 (by decide)) dX4_read_1 rfl ?_
  refine jr_iload_n 1 dX4_read_4 rfl rfl rfl ?_
  refine jr_bipush (v := 60) dX4_read_5 (by decide) rfl ?_
  refine jr_imul dX4_read_7 rfl ?_
  refine jr_iload_n 2 dX4_read_8 rfl rfl rfl ?_
  refine jr_iadd dX4_read_9 rfl ?_
  obtain ⟨hb_1, hF⟩ := jck_e hF
  refine jh_iald (ci := 4) (k := 2) rfl (hB 1 (by decide)) (by decide) rfl rfl hb_1 dX4_read_10 rfl ?_
  exact jh_iret rfl dX4_read_11 hF
set_option maxHeartbeats 4000000 in
set_option maxRecDepth 100000 in
theorem JL_X1_kindOf_2 {E : jx_E} (hB : ∀ o, o < 8 → jB E o) {y0 : Int32} {k : jx_M → Option (Int32 × jx_M)} {r : Int32} {M' : jx_M} (hk : ∀ (M : jx_M), k M = some (r, M') → jJ E yX1_kindOf cX1_kindOf 2 (some FieldType.int) rm_X1_kindOf (fun x M'' => x = some (.int r) ∧ M'' = M') 24 [] [] M) : ∀ (n : Nat) (z1 : Int32) (M : jx_M), L_X1_kindOf_2 y0 k n z1 M = some (r, M') → jJ E yX1_kindOf cX1_kindOf 2 (some FieldType.int) rm_X1_kindOf (fun x M'' => x = some (.int r) ∧ M'' = M') 2 [(0, .int y0), (1, .int z1)] [] M := by
  intro n
  induction n with
  | zero => intro z1 M hF; exact nomatch (show (none : Option (Int32 × jx_M)) = some _ from hF)
  | succ n ih =>
    intro z1 M hF
    rw [L_X1_kindOf_2.eq_2] at hF
    refine jr_iload_n 1 dX1_kindOf_2 rfl rfl rfl ?_
    refine jr_iconst (v := 3) dX1_kindOf_3 (by decide) rfl ?_
    refine jr_icmp_ge 24 dX1_kindOf_4 (by decide) rfl (fun c1 => ?_) (fun c1 => ?_)
    · have hF := jif_p hF c1
      refine jr_sub [] rfl ?_
      exact hk M hF
    · have hF := jif_n hF c1
      refine jh_gets (lw_g_of 324 (by decide +kernel) (by decide +kernel)) dX1_kindOf_7 rfl ?_
      refine jr_iload_n 1 dX1_kindOf_10 rfl rfl rfl ?_
      obtain ⟨hb_1, hF⟩ := jck_e hF
      refine jh_lett hb_1 dX1_kindOf_11 rfl ?_
      refine jr_iload_n 0 dX1_kindOf_12 rfl rfl rfl ?_
      refine jr_icmp_ne 18 dX1_kindOf_13 (by decide) rfl (fun c1 => ?_) (fun c1 => ?_)
      · have hF := jif_n hF c1
        obtain ⟨x1_1, ex1_1⟩ : ∃ z : Int32, z = z1 + 1 := ⟨_, rfl⟩
        have hF := jlet_e hF x1_1 ex1_1
        refine jr_iinc (v := x1_1) (L' := [(1, .int x1_1), (0, .int y0)]) 1 dX1_kindOf_18 rfl (by rw [ex1_1]; rfl) (by decide) rfl rfl ?_
        refine jr_goto 2 dX1_kindOf_21 (by decide) ?_
        refine jr_sub [1, 0] rfl ?_
        exact ih x1_1 M hF
      · have hF := jif_p hF c1
        refine jr_iload_n 1 dX1_kindOf_16 rfl rfl rfl ?_
        exact jh_iret rfl dX1_kindOf_17 hF
set_option maxHeartbeats 4000000 in
set_option maxRecDepth 100000 in
theorem JF_X1_kindOf {E : jx_E} (hB : ∀ o, o < 8 → jB E o) {a0 : Int32} {M : jx_M} {r : Int32} {M' : jx_M} (hF : F_X1_kindOf a0 M = some (r, M')) : jC E yX1_kindOf cX1_kindOf 2 (some FieldType.int) rm_X1_kindOf [.int a0] M (fun x M'' => x = some (.int r) ∧ M'' = M') := by
  refine jC.ofJ (L := [(0, .int a0)]) (by decide +kernel) (Nat.le_of_ble_eq_true rfl) rfl ?_
  unfold F_X1_kindOf at hF
  refine jr_iconst (v := 0) dX1_kindOf_0 (by decide) rfl ?_
  refine jr_istore_n (L' := [(1, .int 0), (0, .int a0)]) dX1_kindOf_1 rfl (by decide) rfl rfl ?_
  refine jr_sub [1, 0] rfl ?_
  refine JL_X1_kindOf_2 hB (fun M_1 hF => ?_) jfu 0 M hF
  refine jr_bipush (v := (-9)) dX1_kindOf_24 (by decide) rfl ?_
  exact jh_iret rfl dX1_kindOf_26 hF
set_option maxHeartbeats 4000000 in
set_option maxRecDepth 100000 in
theorem JF_X1_goesOn {E : jx_E} (hB : ∀ o, o < 8 → jB E o) {a0 : Int32} {a1 : Int32} {a2 : Int32} {M : jx_M} {r : Int32} {M' : jx_M} (hF : F_X1_goesOn a0 a1 a2 M = some (r, M')) : jC E yX1_goesOn cX1_goesOn 3 (some FieldType.boolean) rm_X1_goesOn [.int a0, .int a1, .int a2] M (fun x M'' => x = some (.int r) ∧ M'' = M') := by
  refine jC.ofJ (L := [(0, .int a0), (1, .int a1), (2, .int a2)]) (by decide +kernel) (Nat.le_of_ble_eq_true rfl) rfl ?_
  unfold F_X1_goesOn at hF
  refine jr_iload_n 0 dX1_goesOn_0 rfl rfl rfl ?_
  refine jr_if_ne 16 dX1_goesOn_1 (by decide) rfl (fun c1 => ?_) (fun c1 => ?_)
  · have hF := jif_n hF c1
    refine jr_iload_n 0 dX1_goesOn_16 rfl rfl rfl ?_
    refine jr_iconst (v := 1) dX1_goesOn_17 (by decide) rfl ?_
    refine jr_icmp_ne 39 dX1_goesOn_18 (by decide) rfl (fun c1 => ?_) (fun c1 => ?_)
    · have hF := jif_n hF c1
      refine jr_iload_n 0 dX1_goesOn_39 rfl rfl rfl ?_
      refine jr_bipush (v := 38) dX1_goesOn_40 (by decide) rfl ?_
      refine jr_icmp_lt 47 dX1_goesOn_42 (by decide) rfl (fun c1 => ?_) (fun c1 => ?_)
      · have hF := jif_p hF c1
        refine jr_iload_n 0 dX1_goesOn_47 rfl rfl rfl ?_
        refine jr_iconst (v := 2) dX1_goesOn_48 (by decide) rfl ?_
        refine jr_isub dX1_goesOn_49 rfl ?_
        refine jr_bipush (v := 6) dX1_goesOn_50 (by decide) rfl ?_
        refine jr_irem dX1_goesOn_52 (by decide) rfl ?_
        refine jr_topi (fun sw_1 esw_1 => ?_)
        have hF := jlet_e hF sw_1 esw_1
        by_cases s0 : sw_1 = 0
        · have hF := jif_p hF s0
          refine jr_tabIn (v := 0) (off := 31) 84 dX1_goesOn_53 s0 (by decide) (by decide) ?_
          refine jr_iload_n 1 dX1_goesOn_84 rfl rfl rfl ?_
          refine jr_bipush (v := 59) dX1_goesOn_85 (by decide) rfl ?_
          refine jr_icmp_ne 94 dX1_goesOn_87 (by decide) rfl (fun c1 => ?_) (fun c1 => ?_)
          · have hF := jif_n hF c1
            refine jr_iconst (v := 0) dX1_goesOn_94 (by decide) rfl ?_
            exact jh_zret rfl (Or.inl rfl) dX1_goesOn_95 hF
          · have hF := jif_p hF c1
            refine jr_iconst (v := 1) dX1_goesOn_90 (by decide) rfl ?_
            refine jr_goto 95 dX1_goesOn_91 (by decide) ?_
            exact jh_zret rfl (Or.inr rfl) dX1_goesOn_95 hF
        · have hF := jif_n hF s0
          by_cases s1 : sw_1 = 1
          · have hF := jif_p hF s1
            refine jr_tabIn (v := 1) (off := 43) 96 dX1_goesOn_53 s1 (by decide) (by decide) ?_
            refine jr_iload_n 1 dX1_goesOn_96 rfl rfl rfl ?_
            obtain ⟨r_1, M_1, hc_1, hF⟩ := jbd_e hF
            refine jh_callS1 (v := .int r_1) (as := [.int a1]) (st := []) (JF_X1_kindOf hB hc_1) cw_X1_44 (iv_X1_kindOf) ⟨rfl, rfl, by decide, by decide⟩ rfl rfl (Nat.le_of_ble_eq_true rfl) dX1_goesOn_97 rfl ?_
            refine jr_bipush (v := (-9)) dX1_goesOn_100 (by decide) rfl ?_
            refine jr_icmp_eq 109 dX1_goesOn_102 (by decide) rfl (fun c1 => ?_) (fun c1 => ?_)
            · have hF := jif_p hF c1
              refine jr_iconst (v := 0) dX1_goesOn_109 (by decide) rfl ?_
              exact jh_zret rfl (Or.inl rfl) dX1_goesOn_110 hF
            · have hF := jif_n hF c1
              refine jr_iconst (v := 1) dX1_goesOn_105 (by decide) rfl ?_
              refine jr_goto 110 dX1_goesOn_106 (by decide) ?_
              exact jh_zret rfl (Or.inr rfl) dX1_goesOn_110 hF
          · have hF := jif_n hF s1
            by_cases s2 : sw_1 = 2
            · have hF := jif_p hF s2
              refine jr_tabIn (v := 2) (off := 58) 111 dX1_goesOn_53 s2 (by decide) (by decide) ?_
              refine jr_iload_n 1 dX1_goesOn_111 rfl rfl rfl ?_
              refine jr_bipush (v := 48) dX1_goesOn_112 (by decide) rfl ?_
              refine jr_icmp_lt 129 dX1_goesOn_114 (by decide) rfl (fun c1 => ?_) (fun c1 => ?_)
              · have hF := jif_p hF c1
                refine jr_iconst (v := 0) dX1_goesOn_129 (by decide) rfl ?_
                exact jh_zret rfl (Or.inl rfl) dX1_goesOn_130 hF
              · have hF := jif_n hF c1
                refine jr_iload_n 1 dX1_goesOn_117 rfl rfl rfl ?_
                refine jr_bipush (v := 48) dX1_goesOn_118 (by decide) rfl ?_
                refine jr_iload_n 2 dX1_goesOn_120 rfl rfl rfl ?_
                refine jr_iadd dX1_goesOn_121 rfl ?_
                refine jr_icmp_ge 129 dX1_goesOn_122 (by decide) rfl (fun c1 => ?_) (fun c1 => ?_)
                · have hF := jif_p hF c1
                  refine jr_iconst (v := 0) dX1_goesOn_129 (by decide) rfl ?_
                  exact jh_zret rfl (Or.inl rfl) dX1_goesOn_130 hF
                · have hF := jif_n hF c1
                  refine jr_iconst (v := 1) dX1_goesOn_125 (by decide) rfl ?_
                  refine jr_goto 130 dX1_goesOn_126 (by decide) ?_
                  exact jh_zret rfl (Or.inr rfl) dX1_goesOn_130 hF
            · have hF := jif_n hF s2
              by_cases s3 : sw_1 = 3
              · have hF := jif_p hF s3
                refine jr_tabIn (v := 3) (off := 78) 131 dX1_goesOn_53 s3 (by decide) (by decide) ?_
                refine jr_iload_n 1 dX1_goesOn_131 rfl rfl rfl ?_
                refine jr_bipush (v := 48) dX1_goesOn_132 (by decide) rfl ?_
                refine jr_icmp_lt 147 dX1_goesOn_134 (by decide) rfl (fun c1 => ?_) (fun c1 => ?_)
                · have hF := jif_p hF c1
                  refine jr_iconst (v := 0) dX1_goesOn_147 (by decide) rfl ?_
                  exact jh_zret rfl (Or.inl rfl) dX1_goesOn_148 hF
                · have hF := jif_n hF c1
                  refine jr_iload_n 1 dX1_goesOn_137 rfl rfl rfl ?_
                  refine jr_bipush (v := 57) dX1_goesOn_138 (by decide) rfl ?_
                  refine jr_icmp_gt 147 dX1_goesOn_140 (by decide) rfl (fun c1 => ?_) (fun c1 => ?_)
                  · have hF := jif_p hF c1
                    refine jr_iconst (v := 0) dX1_goesOn_147 (by decide) rfl ?_
                    exact jh_zret rfl (Or.inl rfl) dX1_goesOn_148 hF
                  · have hF := jif_n hF c1
                    refine jr_iconst (v := 1) dX1_goesOn_143 (by decide) rfl ?_
                    refine jr_goto 148 dX1_goesOn_144 (by decide) ?_
                    exact jh_zret rfl (Or.inr rfl) dX1_goesOn_148 hF
              · have hF := jif_n hF s3
                refine jr_tabOut 3 149 dX1_goesOn_53 (by decide) (fun j hj => ?_) (by decide) ?_
                · rcases (show j = 0 ∨ j = 1 ∨ j = 2 ∨ j = 3 by omega) with rfl | rfl | rfl | rfl
                  · exact s0
                  · exact s1
                  · exact s2
                  · exact s3
                refine jr_iload_n 1 dX1_goesOn_149 rfl rfl rfl ?_
                refine jr_bipush (v := 49) dX1_goesOn_150 (by decide) rfl ?_
                refine jr_icmp_lt 165 dX1_goesOn_152 (by decide) rfl (fun c1 => ?_) (fun c1 => ?_)
                · have hF := jif_p hF c1
                  refine jr_iconst (v := 0) dX1_goesOn_165 (by decide) rfl ?_
                  exact jh_zret rfl (Or.inl rfl) dX1_goesOn_166 hF
                · have hF := jif_n hF c1
                  refine jr_iload_n 1 dX1_goesOn_155 rfl rfl rfl ?_
                  refine jr_bipush (v := 57) dX1_goesOn_156 (by decide) rfl ?_
                  refine jr_icmp_gt 165 dX1_goesOn_158 (by decide) rfl (fun c1 => ?_) (fun c1 => ?_)
                  · have hF := jif_p hF c1
                    refine jr_iconst (v := 0) dX1_goesOn_165 (by decide) rfl ?_
                    exact jh_zret rfl (Or.inl rfl) dX1_goesOn_166 hF
                  · have hF := jif_n hF c1
                    refine jr_iconst (v := 1) dX1_goesOn_161 (by decide) rfl ?_
                    refine jr_goto 166 dX1_goesOn_162 (by decide) ?_
                    exact jh_zret rfl (Or.inr rfl) dX1_goesOn_166 hF
      · have hF := jif_n hF c1
        refine jr_iconst (v := 0) dX1_goesOn_45 (by decide) rfl ?_
        exact jh_zret rfl (Or.inl rfl) dX1_goesOn_46 hF
    · have hF := jif_p hF c1
      refine jr_iload_n 1 dX1_goesOn_21 rfl rfl rfl ?_
      refine jr_bipush (v := 49) dX1_goesOn_22 (by decide) rfl ?_
      refine jr_icmp_lt 37 dX1_goesOn_24 (by decide) rfl (fun c1 => ?_) (fun c1 => ?_)
      · have hF := jif_p hF c1
        refine jr_iconst (v := 0) dX1_goesOn_37 (by decide) rfl ?_
        exact jh_zret rfl (Or.inl rfl) dX1_goesOn_38 hF
      · have hF := jif_n hF c1
        refine jr_iload_n 1 dX1_goesOn_27 rfl rfl rfl ?_
        refine jr_bipush (v := 52) dX1_goesOn_28 (by decide) rfl ?_
        refine jr_icmp_gt 37 dX1_goesOn_30 (by decide) rfl (fun c1 => ?_) (fun c1 => ?_)
        · have hF := jif_p hF c1
          refine jr_iconst (v := 0) dX1_goesOn_37 (by decide) rfl ?_
          exact jh_zret rfl (Or.inl rfl) dX1_goesOn_38 hF
        · have hF := jif_n hF c1
          refine jr_iconst (v := 1) dX1_goesOn_33 (by decide) rfl ?_
          refine jr_goto 38 dX1_goesOn_34 (by decide) ?_
          exact jh_zret rfl (Or.inr rfl) dX1_goesOn_38 hF
  · have hF := jif_p hF c1
    refine jr_iload_n 1 dX1_goesOn_4 rfl rfl rfl ?_
    refine jr_bipush (v := 99) dX1_goesOn_5 (by decide) rfl ?_
    refine jr_icmp_ne 14 dX1_goesOn_7 (by decide) rfl (fun c1 => ?_) (fun c1 => ?_)
    · have hF := jif_n hF c1
      refine jr_iconst (v := 0) dX1_goesOn_14 (by decide) rfl ?_
      exact jh_zret rfl (Or.inl rfl) dX1_goesOn_15 hF
    · have hF := jif_p hF c1
      refine jr_iconst (v := 1) dX1_goesOn_10 (by decide) rfl ?_
      refine jr_goto 15 dX1_goesOn_11 (by decide) ?_
      exact jh_zret rfl (Or.inr rfl) dX1_goesOn_15 hF
set_option maxHeartbeats 4000000 in
set_option maxRecDepth 100000 in
theorem JL_X1_firstFault_6 {E : jx_E} (hB : ∀ o, o < 8 → jB E o) {y1 : Int32} {y2 : Int32} {y3 : Int32} {k : jx_M → Option (Int32 × jx_M)} {r : Int32} {M' : jx_M} (hk : ∀ (M : jx_M), k M = some (r, M') → jJ E yX1_firstFault cX1_firstFault 7 (some FieldType.int) rm_X1_firstFault (fun x M'' => x = some (.int r) ∧ M'' = M') 57 [(3, .int y3)] [] M) : ∀ (n : Nat) (z4 : Int32) (z5 : Int32) (M : jx_M), L_X1_firstFault_6 y1 y2 y3 k n z4 z5 M = some (r, M') → jJ E yX1_firstFault cX1_firstFault 7 (some FieldType.int) rm_X1_firstFault (fun x M'' => x = some (.int r) ∧ M'' = M') 6 [(0, .ref (ja E 1 0)), (1, .int y1), (2, .int y2), (3, .int y3), (4, .int z4), (5, .int z5)] [] M := by
  intro n
  induction n with
  | zero => intro z4 z5 M hF; exact nomatch (show (none : Option (Int32 × jx_M)) = some _ from hF)
  | succ n ih =>
    intro z4 z5 M hF
    rw [L_X1_firstFault_6.eq_2] at hF
    refine jr_iload 5 dX1_firstFault_6 rfl rfl ?_
    refine jr_iload_n 3 dX1_firstFault_8 rfl rfl rfl ?_
    refine jr_icmp_ge 57 dX1_firstFault_9 (by decide) rfl (fun c1 => ?_) (fun c1 => ?_)
    · have hF := jif_p hF c1
      refine jr_sub [3] rfl ?_
      exact hk M hF
    · have hF := jif_n hF c1
      refine jr_aload_n 0 dX1_firstFault_12 rfl rfl rfl ?_
      refine jr_iload_n 1 dX1_firstFault_13 rfl rfl rfl ?_
      refine jr_iload_n 2 dX1_firstFault_14 rfl rfl rfl ?_
      refine jr_iload 5 dX1_firstFault_15 rfl rfl ?_
      refine jr_iadd dX1_firstFault_17 rfl ?_
      obtain ⟨r_1, M_1, hc_1, hF⟩ := jbd_e hF
      refine jh_callV1 (v := .int r_1) (o := 1) (as := [.int y1, .int (y2 + z5)]) (st := []) (JF_X4_read hB hc_1) cw_X1_34 (iv_X4_read) ⟨rfl, rfl, by decide, by decide⟩ rfl (hB 1 (by decide)) rfl rfl (Nat.le_of_ble_eq_true rfl) dX1_firstFault_18 rfl ?_
      refine jr_istore (L' := [(6, .int r_1), (0, .ref (ja E 1 0)), (1, .int y1), (2, .int y2), (3, .int y3), (4, .int z4), (5, .int z5)]) dX1_firstFault_21 (by decide) rfl rfl ?_
      refine jr_iload 6 dX1_firstFault_23 rfl rfl ?_
      refine jr_iload 0 dX1_firstFault_25 rfl rfl ?_
      refine jr_iload 5 dX1_firstFault_27 rfl rfl ?_
      obtain ⟨r_2, M_2, hc_2, hF⟩ := jbd_e hF
      refine jh_callS1 (v := .int r_2) (as := [.int z5, .int r_1, .int z4]) (st := []) (JF_X1_goesOn hB hc_2) cw_X1_40 (iv_X1_goesOn) ⟨rfl, rfl, by decide, by decide⟩ rfl rfl (Nat.le_of_ble_eq_true rfl) dX1_firstFault_29 rfl ?_
      refine jr_if_ne 38 dX1_firstFault_32 (by decide) rfl (fun c1 => ?_) (fun c1 => ?_)
      · have hF := jif_n hF c1
        refine jr_iload 6 dX1_firstFault_38 rfl rfl ?_
        refine jr_iconst (v := 1) dX1_firstFault_40 (by decide) rfl ?_
        refine jr_icmp_ne 51 dX1_firstFault_41 (by decide) rfl (fun c1 => ?_) (fun c1 => ?_)
        · have hF := jif_n hF c1
          obtain ⟨x5_1, ex5_1⟩ : ∃ z : Int32, z = z5 + 1 := ⟨_, rfl⟩
          have hF := jlet_e hF x5_1 ex5_1
          refine jr_iinc (v := x5_1) (L' := [(5, .int x5_1), (6, .int r_1), (0, .ref (ja E 1 0)), (1, .int y1), (2, .int y2), (3, .int y3), (4, .int z4)]) 6 dX1_firstFault_51 rfl (by rw [ex5_1]; rfl) (by decide) rfl rfl ?_
          refine jr_goto 6 dX1_firstFault_54 (by decide) ?_
          refine jr_sub [2, 3, 4, 5, 6, 0] rfl ?_
          exact ih z4 x5_1 M_2 hF
        · have hF := jif_p hF c1
          refine jr_iload 0 dX1_firstFault_44 rfl rfl ?_
          refine jr_bipush (v := 48) dX1_firstFault_46 (by decide) rfl ?_
          refine jr_isub dX1_firstFault_48 rfl ?_
          refine jr_topi (fun x4_1 ex4_1 => ?_)
          have hF := jlet_e hF x4_1 ex4_1
          refine jr_istore (L' := [(4, .int x4_1), (6, .int r_1), (0, .ref (ja E 1 0)), (1, .int y1), (2, .int y2), (3, .int y3), (5, .int z5)]) dX1_firstFault_49 (by decide) rfl rfl ?_
          obtain ⟨x5_2, ex5_2⟩ : ∃ z : Int32, z = z5 + 1 := ⟨_, rfl⟩
          have hF := jlet_e hF x5_2 ex5_2
          refine jr_iinc (v := x5_2) (L' := [(5, .int x5_2), (4, .int x4_1), (6, .int r_1), (0, .ref (ja E 1 0)), (1, .int y1), (2, .int y2), (3, .int y3)]) 6 dX1_firstFault_51 rfl (by rw [ex5_2]; rfl) (by decide) rfl rfl ?_
          refine jr_goto 6 dX1_firstFault_54 (by decide) ?_
          refine jr_sub [3, 4, 5, 6, 1, 0] rfl ?_
          exact ih x4_1 x5_2 M_2 hF
      · have hF := jif_p hF c1
        refine jr_iload 6 dX1_firstFault_35 rfl rfl ?_
        exact jh_iret rfl dX1_firstFault_37 hF
set_option maxHeartbeats 4000000 in
set_option maxRecDepth 100000 in
theorem JF_X1_firstFault {E : jx_E} (hB : ∀ o, o < 8 → jB E o) {a1 : Int32} {a2 : Int32} {a3 : Int32} {M : jx_M} {r : Int32} {M' : jx_M} (hF : F_X1_firstFault a1 a2 a3 M = some (r, M')) : jC E yX1_firstFault cX1_firstFault 7 (some FieldType.int) rm_X1_firstFault [.ref (ja E 1 0), .int a1, .int a2, .int a3] M (fun x M'' => x = some (.int r) ∧ M'' = M') := by
  refine jC.ofJ (L := [(0, .ref (ja E 1 0)), (1, .int a1), (2, .int a2), (3, .int a3)]) (by decide +kernel) (Nat.le_of_ble_eq_true rfl) rfl ?_
  unfold F_X1_firstFault at hF
  refine jr_iconst (v := 0) dX1_firstFault_0 (by decide) rfl ?_
  refine jr_istore (L' := [(4, .int 0), (0, .ref (ja E 1 0)), (1, .int a1), (2, .int a2), (3, .int a3)]) dX1_firstFault_1 (by decide) rfl rfl ?_
  refine jr_iconst (v := 0) dX1_firstFault_3 (by decide) rfl ?_
  refine jr_istore (L' := [(5, .int 0), (4, .int 0), (0, .ref (ja E 1 0)), (1, .int a1), (2, .int a2), (3, .int a3)]) dX1_firstFault_4 (by decide) rfl rfl ?_
  refine jr_sub [2, 3, 4, 5, 1, 0] rfl ?_
  refine JL_X1_firstFault_6 hB (fun M_3 hF => ?_) jfu 0 0 M hF
  refine jr_iload_n 0 dX1_firstFault_57 rfl rfl rfl ?_
  refine jr_bipush (v := 14) dX1_firstFault_58 (by decide) rfl ?_
  refine jr_icmp_lt 76 dX1_firstFault_60 (by decide) rfl (fun c1 => ?_) (fun c1 => ?_)
  · have hF := jif_p hF c1
    refine jr_iconst (v := 0) dX1_firstFault_76 (by decide) rfl ?_
    refine jr_istore (L' := [(5, .int 0), (3, .int a3)]) dX1_firstFault_77 (by decide) rfl rfl ?_
    refine jr_iload 0 dX1_firstFault_79 rfl rfl ?_
    refine jr_if_eq 89 dX1_firstFault_81 (by decide) rfl (fun c1 => ?_) (fun c1 => absurd c1 (by decide))
    refine jr_iload_n 1 dX1_firstFault_89 rfl rfl rfl ?_
    exact jh_iret rfl dX1_firstFault_90 hF
  · have hF := jif_n hF c1
    refine jr_iload_n 0 dX1_firstFault_63 rfl rfl rfl ?_
    refine jr_iconst (v := 2) dX1_firstFault_64 (by decide) rfl ?_
    refine jr_isub dX1_firstFault_65 rfl ?_
    refine jr_bipush (v := 6) dX1_firstFault_66 (by decide) rfl ?_
    refine jr_irem dX1_firstFault_68 (by decide) rfl ?_
    refine jr_if_ne 76 dX1_firstFault_69 (by decide) rfl (fun c1 => ?_) (fun c1 => ?_)
    · have hF := jif_n hF c1
      refine jr_iconst (v := 0) dX1_firstFault_76 (by decide) rfl ?_
      refine jr_istore (L' := [(5, .int 0), (3, .int a3)]) dX1_firstFault_77 (by decide) rfl rfl ?_
      refine jr_iload 0 dX1_firstFault_79 rfl rfl ?_
      refine jr_if_eq 89 dX1_firstFault_81 (by decide) rfl (fun c1 => ?_) (fun c1 => absurd c1 (by decide))
      refine jr_iload_n 1 dX1_firstFault_89 rfl rfl rfl ?_
      exact jh_iret rfl dX1_firstFault_90 hF
    · have hF := jif_p hF c1
      refine jr_iconst (v := 1) dX1_firstFault_72 (by decide) rfl ?_
      refine jr_goto 77 dX1_firstFault_73 (by decide) ?_
      refine jr_istore (L' := [(5, .int 1), (3, .int a3)]) dX1_firstFault_77 (by decide) rfl rfl ?_
      refine jr_iload 0 dX1_firstFault_79 rfl rfl ?_
      refine jr_if_eq 89 dX1_firstFault_81 (by decide) rfl (fun c1 => absurd c1 (by decide)) (fun c1 => ?_)
      refine jr_bipush (v := (-9)) dX1_firstFault_84 (by decide) rfl ?_
      refine jr_goto 90 dX1_firstFault_86 (by decide) ?_
      exact jh_iret rfl dX1_firstFault_90 hF
set_option maxHeartbeats 4000000 in
set_option maxRecDepth 100000 in
theorem JL_X1_settle_29 {E : jx_E} (hB : ∀ o, o < 8 → jB E o) {y2 : Int32} {y3 : Int32} {k : jx_M → Option (Unit × jx_M)} {r : Unit} {M' : jx_M} (hk : ∀ (M : jx_M), k M = some (r, M') → jJ E yX1_settle cX1_settle 7 none rm_X1_settle (fun x M'' => x = none ∧ M'' = M') 150 [] [] M) : ∀ (n : Nat) (z5 : Int32) (M : jx_M), L_X1_settle_29 y2 y3 k n z5 M = some (r, M') → jJ E yX1_settle cX1_settle 7 none rm_X1_settle (fun x M'' => x = none ∧ M'' = M') 29 [(0, .ref (ja E 2 0)), (1, .ref (ja E 1 0)), (2, .int y2), (3, .int y3), (5, .int z5)] [] M := by
  intro n
  induction n with
  | zero => intro z5 M hF; exact nomatch (show (none : Option (Unit × jx_M)) = some _ from hF)
  | succ n ih =>
    intro z5 M hF
    rw [L_X1_settle_29.eq_2] at hF
    refine jr_iload 4 dX1_settle_29 rfl rfl ?_
    refine jr_aload_n 0 dX1_settle_31 rfl rfl rfl ?_
    refine gf_X1_15 rfl rfl (hB 2 (by decide)) dX1_settle_32 rfl ?_
    refine jr_icmp_ge 150 dX1_settle_35 (by decide) rfl (fun c1 => ?_) (fun c1 => ?_)
    · have hF := jif_p hF c1
      refine jr_sub [] rfl ?_
      exact hk M hF
    · have hF := jif_n hF c1
      refine jr_iload_n 3 dX1_settle_38 rfl rfl rfl ?_
      refine jr_iconst (v := 2) dX1_settle_39 (by decide) rfl ?_
      refine jr_iadd dX1_settle_40 rfl ?_
      refine jr_iload 4 dX1_settle_41 rfl rfl ?_
      refine jr_bipush (v := 6) dX1_settle_43 (by decide) rfl ?_
      refine jr_imul dX1_settle_45 rfl ?_
      refine jr_iadd dX1_settle_46 rfl ?_
      refine jr_topi (fun x6_1 ex6_1 => ?_)
      have hF := jlet_e hF x6_1 ex6_1
      refine jr_istore (L' := [(6, .int x6_1), (0, .ref (ja E 2 0)), (1, .ref (ja E 1 0)), (2, .int y2), (3, .int y3), (5, .int z5)]) dX1_settle_47 (by decide) rfl rfl ?_
      refine jr_aload_n 1 dX1_settle_49 rfl rfl rfl ?_
      refine gf_X1_18 rfl rfl (hB 2 (by decide)) dX1_settle_50 rfl ?_
      refine jr_iload 5 dX1_settle_53 rfl rfl ?_
      refine jr_aload_n 2 dX1_settle_55 rfl rfl rfl ?_
      refine jr_iload_n 3 dX1_settle_56 rfl rfl rfl ?_
      refine jr_iload 0 dX1_settle_57 rfl rfl ?_
      refine jr_iconst (v := 1) dX1_settle_59 (by decide) rfl ?_
      refine jr_iadd dX1_settle_60 rfl ?_
      obtain ⟨r_2, M_4, hc_2, hF⟩ := jbd_e hF
      refine jh_callV1 (v := .int r_2) (o := 1) (as := [.int y2, .int (x6_1 + 1)]) (st := [.int z5, .ref (ja E 2 3)]) (JF_X4_read hB hc_2) cw_X1_34 (iv_X4_read) ⟨rfl, rfl, by decide, by decide⟩ rfl (hB 1 (by decide)) rfl rfl (Nat.le_of_ble_eq_true rfl) dX1_settle_61 rfl ?_
      obtain ⟨r_3, M_5, hc_3, hF⟩ := jbd_e hF
      refine jh_callS1 (v := .int r_3) (as := [.int r_2]) (st := [.int z5, .ref (ja E 2 3)]) (JF_X1_kindOf hB hc_3) cw_X1_44 (iv_X1_kindOf) ⟨rfl, rfl, by decide, by decide⟩ rfl rfl (Nat.le_of_ble_eq_true rfl) dX1_settle_64 rfl ?_
      obtain ⟨hb_1, hF⟩ := jck_e hF
      refine jh_iast (ci := 1) (k := 2) rfl (hB 2 (by decide)) (by decide) rfl rfl hb_1 dX1_settle_67 rfl (fun M_6 eM_6 => ?_)
      have hF := jlet_e hF M_6 eM_6
      refine jr_aload_n 1 dX1_settle_68 rfl rfl rfl ?_
      refine gf_X1_22 rfl rfl (hB 2 (by decide)) dX1_settle_69 rfl ?_
      refine jr_iload 5 dX1_settle_72 rfl rfl ?_
      refine jr_aload_n 2 dX1_settle_74 rfl rfl rfl ?_
      refine jr_iload_n 3 dX1_settle_75 rfl rfl rfl ?_
      refine jr_iload 0 dX1_settle_76 rfl rfl ?_
      refine jr_iconst (v := 2) dX1_settle_78 (by decide) rfl ?_
      refine jr_iadd dX1_settle_79 rfl ?_
      obtain ⟨r_4, M_7, hc_4, hF⟩ := jbd_e hF
      refine jh_callV1 (v := .int r_4) (o := 1) (as := [.int y2, .int (x6_1 + 2)]) (st := [.int z5, .ref (ja E 2 4)]) (JF_X4_read hB hc_4) cw_X1_34 (iv_X4_read) ⟨rfl, rfl, by decide, by decide⟩ rfl (hB 1 (by decide)) rfl rfl (Nat.le_of_ble_eq_true rfl) dX1_settle_80 rfl ?_
      refine jr_bipush (v := 48) dX1_settle_83 (by decide) rfl ?_
      refine jr_isub dX1_settle_85 rfl ?_
      obtain ⟨hb_2, hF⟩ := jck_e hF
      refine jh_iast (ci := 1) (k := 3) rfl (hB 2 (by decide)) (by decide) rfl rfl hb_2 dX1_settle_86 rfl (fun M_8 eM_8 => ?_)
      have hF := jlet_e hF M_8 eM_8
      refine jr_aload_n 1 dX1_settle_87 rfl rfl rfl ?_
      refine gf_X1_25 rfl rfl (hB 2 (by decide)) dX1_settle_88 rfl ?_
      refine jr_iload 5 dX1_settle_91 rfl rfl ?_
      refine jr_aload_n 2 dX1_settle_93 rfl rfl rfl ?_
      refine jr_iload_n 3 dX1_settle_94 rfl rfl rfl ?_
      refine jr_iload 0 dX1_settle_95 rfl rfl ?_
      refine jr_iconst (v := 3) dX1_settle_97 (by decide) rfl ?_
      refine jr_iadd dX1_settle_98 rfl ?_
      obtain ⟨r_5, M_9, hc_5, hF⟩ := jbd_e hF
      refine jh_callV1 (v := .int r_5) (o := 1) (as := [.int y2, .int (x6_1 + 3)]) (st := [.int z5, .ref (ja E 2 5)]) (JF_X4_read hB hc_5) cw_X1_34 (iv_X4_read) ⟨rfl, rfl, by decide, by decide⟩ rfl (hB 1 (by decide)) rfl rfl (Nat.le_of_ble_eq_true rfl) dX1_settle_99 rfl ?_
      refine jr_bipush (v := 48) dX1_settle_102 (by decide) rfl ?_
      refine jr_isub dX1_settle_104 rfl ?_
      obtain ⟨hb_3, hF⟩ := jck_e hF
      refine jh_iast (ci := 1) (k := 4) rfl (hB 2 (by decide)) (by decide) rfl rfl hb_3 dX1_settle_105 rfl (fun M_10 eM_10 => ?_)
      have hF := jlet_e hF M_10 eM_10
      refine jr_aload_n 1 dX1_settle_106 rfl rfl rfl ?_
      refine gf_X1_28 rfl rfl (hB 2 (by decide)) dX1_settle_107 rfl ?_
      refine jr_iload 5 dX1_settle_110 rfl rfl ?_
      refine jr_aload_n 2 dX1_settle_112 rfl rfl rfl ?_
      refine jr_iload_n 3 dX1_settle_113 rfl rfl rfl ?_
      refine jr_iload 0 dX1_settle_114 rfl rfl ?_
      refine jr_iconst (v := 4) dX1_settle_116 (by decide) rfl ?_
      refine jr_iadd dX1_settle_117 rfl ?_
      obtain ⟨r_6, M_11, hc_6, hF⟩ := jbd_e hF
      refine jh_callV1 (v := .int r_6) (o := 1) (as := [.int y2, .int (x6_1 + 4)]) (st := [.int z5, .ref (ja E 2 6)]) (JF_X4_read hB hc_6) cw_X1_34 (iv_X4_read) ⟨rfl, rfl, by decide, by decide⟩ rfl (hB 1 (by decide)) rfl rfl (Nat.le_of_ble_eq_true rfl) dX1_settle_118 rfl ?_
      refine jr_bipush (v := 48) dX1_settle_121 (by decide) rfl ?_
      refine jr_isub dX1_settle_123 rfl ?_
      obtain ⟨hb_4, hF⟩ := jck_e hF
      refine jh_iast (ci := 1) (k := 5) rfl (hB 2 (by decide)) (by decide) rfl rfl hb_4 dX1_settle_124 rfl (fun M_12 eM_12 => ?_)
      have hF := jlet_e hF M_12 eM_12
      refine jr_aload_n 1 dX1_settle_125 rfl rfl rfl ?_
      refine gf_X1_31 rfl rfl (hB 2 (by decide)) dX1_settle_126 rfl ?_
      refine jr_iload 5 dX1_settle_129 rfl rfl ?_
      refine jr_aload_n 2 dX1_settle_131 rfl rfl rfl ?_
      refine jr_iload_n 3 dX1_settle_132 rfl rfl rfl ?_
      refine jr_iload 0 dX1_settle_133 rfl rfl ?_
      refine jr_iconst (v := 5) dX1_settle_135 (by decide) rfl ?_
      refine jr_iadd dX1_settle_136 rfl ?_
      obtain ⟨r_7, M_13, hc_7, hF⟩ := jbd_e hF
      refine jh_callV1 (v := .int r_7) (o := 1) (as := [.int y2, .int (x6_1 + 5)]) (st := [.int z5, .ref (ja E 2 7)]) (JF_X4_read hB hc_7) cw_X1_34 (iv_X4_read) ⟨rfl, rfl, by decide, by decide⟩ rfl (hB 1 (by decide)) rfl rfl (Nat.le_of_ble_eq_true rfl) dX1_settle_137 rfl ?_
      refine jr_bipush (v := 48) dX1_settle_140 (by decide) rfl ?_
      refine jr_isub dX1_settle_142 rfl ?_
      obtain ⟨hb_5, hF⟩ := jck_e hF
      refine jh_iast (ci := 1) (k := 6) rfl (hB 2 (by decide)) (by decide) rfl rfl hb_5 dX1_settle_143 rfl (fun M_14 eM_14 => ?_)
      have hF := jlet_e hF M_14 eM_14
      obtain ⟨x5_1, ex5_1⟩ : ∃ z : Int32, z = z5 + 1 := ⟨_, rfl⟩
      have hF := jlet_e hF x5_1 ex5_1
      refine jr_iinc (v := x5_1) (L' := [(5, .int x5_1), (6, .int x6_1), (0, .ref (ja E 2 0)), (1, .ref (ja E 1 0)), (2, .int y2), (3, .int y3)]) 5 dX1_settle_144 rfl (by rw [ex5_1]; rfl) (by decide) rfl rfl ?_
      refine jr_goto 29 dX1_settle_147 (by decide) ?_
      refine jr_sub [2, 3, 4, 5, 0] rfl ?_
      exact ih x5_1 M_14 hF
set_option maxHeartbeats 4000000 in
set_option maxRecDepth 100000 in
theorem JF_X1_settle {E : jx_E} (hB : ∀ o, o < 8 → jB E o) {a2 : Int32} {a3 : Int32} {a4 : Int32} {M : jx_M} {r : Unit} {M' : jx_M} (hF : F_X1_settle a2 a3 a4 M = some (r, M')) : jC E yX1_settle cX1_settle 7 none rm_X1_settle [.ref (ja E 2 0), .ref (ja E 1 0), .int a2, .int a3, .int a4] M (fun x M'' => x = none ∧ M'' = M') := by
  refine jC.ofJ (L := [(0, .ref (ja E 2 0)), (1, .ref (ja E 1 0)), (2, .int a2), (3, .int a3), (4, .int a4)]) (by decide +kernel) (Nat.le_of_ble_eq_true rfl) rfl ?_
  unfold F_X1_settle at hF
  refine jr_aload_n 0 dX1_settle_0 rfl rfl rfl ?_
  refine jr_aload_n 1 dX1_settle_1 rfl rfl rfl ?_
  refine jr_iload_n 2 dX1_settle_2 rfl rfl rfl ?_
  refine jr_iload_n 3 dX1_settle_3 rfl rfl rfl ?_
  refine jr_iconst (v := 1) dX1_settle_4 (by decide) rfl ?_
  refine jr_iadd dX1_settle_5 rfl ?_
  obtain ⟨r_1, M_1, hc_1, hF⟩ := jbd_e hF
  refine jh_callV1 (v := .int r_1) (o := 1) (as := [.int a2, .int (a3 + 1)]) (st := [.ref (ja E 2 0)]) (JF_X4_read hB hc_1) cw_X1_34 (iv_X4_read) ⟨rfl, rfl, by decide, by decide⟩ rfl (hB 1 (by decide)) rfl rfl (Nat.le_of_ble_eq_true rfl) dX1_settle_6 rfl ?_
  refine jr_bipush (v := 48) dX1_settle_9 (by decide) rfl ?_
  refine jr_isub dX1_settle_11 rfl ?_
  refine pf_X1_11 rfl rfl (hB 2 (by decide)) dX1_settle_12 ⟨rfl, rfl⟩ rfl (fun M_2 eM_2 => ?_)
  have hF := jlet_e hF M_2 eM_2
  refine jr_aload_n 0 dX1_settle_15 rfl rfl rfl ?_
  refine jr_iload 4 dX1_settle_16 rfl rfl ?_
  refine jr_iconst (v := 2) dX1_settle_18 (by decide) rfl ?_
  refine jr_isub dX1_settle_19 rfl ?_
  refine jr_bipush (v := 6) dX1_settle_20 (by decide) rfl ?_
  refine jr_idiv dX1_settle_22 (by decide) rfl ?_
  refine pf_X1_15 rfl rfl (hB 2 (by decide)) dX1_settle_23 ⟨rfl, rfl⟩ rfl (fun M_3 eM_3 => ?_)
  have hF := jlet_e hF M_3 eM_3
  refine jr_iconst (v := 0) dX1_settle_26 (by decide) rfl ?_
  refine jr_istore (L' := [(5, .int 0), (0, .ref (ja E 2 0)), (1, .ref (ja E 1 0)), (2, .int a2), (3, .int a3), (4, .int a4)]) dX1_settle_27 (by decide) rfl rfl ?_
  refine jr_sub [1, 2, 3, 4, 0] rfl ?_
  refine JL_X1_settle_29 hB (fun M_15 hF => ?_) jfu 0 M_3 hF
  exact jh_vret rfl dX1_settle_150 hF
set_option maxHeartbeats 4000000 in
set_option maxRecDepth 100000 in
theorem JF_X1_setCount {E : jx_E} (hB : ∀ o, o < 8 → jB E o) {M : jx_M} {r : Int32} {M' : jx_M} (hF : F_X1_setCount  M = some (r, M')) : jC E yX1_setCount cX1_setCount 1 (some FieldType.int) rm_X1_setCount [.ref (ja E 2 0)] M (fun x M'' => x = some (.int r) ∧ M'' = M') := by
  refine jC.ofJ (L := [(0, .ref (ja E 2 0))]) (by decide +kernel) (Nat.le_of_ble_eq_true rfl) rfl ?_
  unfold F_X1_setCount at hF
  refine jr_iconst (v := 1) dX1_setCount_0 (by decide) rfl ?_
  refine jr_aload_n 0 dX1_setCount_1 rfl rfl rfl ?_
  refine gf_X1_15 rfl rfl (hB 2 (by decide)) dX1_setCount_2 rfl ?_
  refine jr_ishl dX1_setCount_5 rfl ?_
  exact jh_iret rfl dX1_setCount_6 hF
set_option maxHeartbeats 4000000 in
set_option maxRecDepth 100000 in
theorem JF_X2_clear {E : jx_E} (hB : ∀ o, o < 8 → jB E o) {o : Nat} (ho_o : o = 3 ∨ o = 6) {M : jx_M} {r : Unit} {M' : jx_M} (hF : F_X2_clear o M = some (r, M')) : jC E yX2_clear cX2_clear 1 none rm_X2_clear [.ref (ja E o 0)] M (fun x M'' => x = none ∧ M'' = M') := by
  have hc_o : jx_c o = 2 := by rcases ho_o with rfl | rfl <;> rfl
  have hb_o : jB E o := hB o (by omega)
  refine jC.ofJ (L := [(0, .ref (ja E o 0))]) (by decide +kernel) (Nat.le_of_ble_eq_true rfl) rfl ?_
  unfold F_X2_clear at hF
  refine jr_aload_n 0 dX2_clear_0 rfl rfl rfl ?_
  refine jr_iconst (v := 0) dX2_clear_1 (by decide) rfl ?_
  refine pf_X2_9 rfl hc_o hb_o dX2_clear_2 ⟨rfl, rfl⟩ rfl (fun M_1 eM_1 => ?_)
  have hF := jlet_e hF M_1 eM_1
  refine jr_aload_n 0 dX2_clear_5 rfl rfl rfl ?_
  refine jr_iconst (v := 0) dX2_clear_6 (by decide) rfl ?_
  refine pf_X2_15 rfl hc_o hb_o dX2_clear_7 ⟨rfl, rfl⟩ rfl (fun M_2 eM_2 => ?_)
  have hF := jlet_e hF M_2 eM_2
  refine jr_aload_n 0 dX2_clear_10 rfl rfl rfl ?_
  refine jr_iconst (v := 0) dX2_clear_11 (by decide) rfl ?_
  refine pf_X2_18 rfl hc_o hb_o dX2_clear_12 ⟨rfl, rfl⟩ rfl (fun M_3 eM_3 => ?_)
  have hF := jlet_e hF M_3 eM_3
  refine jr_aload_n 0 dX2_clear_15 rfl rfl rfl ?_
  refine gf_X2_21 rfl hc_o hb_o dX2_clear_16 rfl ?_
  refine jr_bipush (v := 40) dX2_clear_19 (by decide) rfl ?_
  obtain ⟨r_1, M_4, hc_1, hF⟩ := jbd_e hF
  refine jh_callS0 (as := [.ref (ja E o 4), .int 40]) (st := []) (JF_J7_fill_53178 (ci := 2) hc_o hb_o (by decide) rfl rfl hc_1) cw_X2_34 (iv_J7_fill_53178) ⟨rfl, rfl, by decide, by decide⟩ rfl rfl (Nat.le_of_ble_eq_true rfl) dX2_clear_21 rfl ?_
  exact jh_vret rfl dX2_clear_24 hF
set_option maxHeartbeats 4000000 in
set_option maxRecDepth 100000 in
theorem JF_X2_takeOver {E : jx_E} (hB : ∀ o, o < 8 → jB E o) {o : Nat} (ho_o : o = 3 ∨ o = 6) {o1 : Nat} (ho_o1 : o1 = 3 ∨ o1 = 6) {M : jx_M} {r : Unit} {M' : jx_M} (hF : F_X2_takeOver o o1 M = some (r, M')) : jC E yX2_takeOver cX2_takeOver 2 none rm_X2_takeOver [.ref (ja E o 0), .ref (ja E o1 0)] M (fun x M'' => x = none ∧ M'' = M') := by
  have hc_o : jx_c o = 2 := by rcases ho_o with rfl | rfl <;> rfl
  have hb_o : jB E o := hB o (by omega)
  have hc_o1 : jx_c o1 = 2 := by rcases ho_o1 with rfl | rfl <;> rfl
  have hb_o1 : jB E o1 := hB o1 (by omega)
  refine jC.ofJ (L := [(0, .ref (ja E o 0)), (1, .ref (ja E o1 0))]) (by decide +kernel) (Nat.le_of_ble_eq_true rfl) rfl ?_
  unfold F_X2_takeOver at hF
  refine jr_aload_n 0 dX2_takeOver_0 rfl rfl rfl ?_
  refine jr_aload_n 1 dX2_takeOver_1 rfl rfl rfl ?_
  refine gf_X2_9 rfl hc_o1 hb_o1 dX2_takeOver_2 rfl ?_
  refine pf_X2_9 rfl hc_o hb_o dX2_takeOver_5 ⟨rfl, rfl⟩ rfl (fun M_1 eM_1 => ?_)
  have hF := jlet_e hF M_1 eM_1
  refine jr_aload_n 0 dX2_takeOver_8 rfl rfl rfl ?_
  refine jr_aload_n 1 dX2_takeOver_9 rfl rfl rfl ?_
  refine gf_X2_15 rfl hc_o1 hb_o1 dX2_takeOver_10 rfl ?_
  refine pf_X2_15 rfl hc_o hb_o dX2_takeOver_13 ⟨rfl, rfl⟩ rfl (fun M_2 eM_2 => ?_)
  have hF := jlet_e hF M_2 eM_2
  refine jr_aload_n 0 dX2_takeOver_16 rfl rfl rfl ?_
  refine jr_aload_n 1 dX2_takeOver_17 rfl rfl rfl ?_
  refine gf_X2_18 rfl hc_o1 hb_o1 dX2_takeOver_18 rfl ?_
  refine pf_X2_18 rfl hc_o hb_o dX2_takeOver_21 ⟨rfl, rfl⟩ rfl (fun M_3 eM_3 => ?_)
  have hF := jlet_e hF M_3 eM_3
  refine jr_aload_n 1 dX2_takeOver_24 rfl rfl rfl ?_
  refine gf_X2_21 rfl hc_o1 hb_o1 dX2_takeOver_25 rfl ?_
  refine jr_iconst (v := 0) dX2_takeOver_28 (by decide) rfl ?_
  refine jr_aload_n 0 dX2_takeOver_29 rfl rfl rfl ?_
  refine gf_X2_21 rfl hc_o hb_o dX2_takeOver_30 rfl ?_
  refine jr_iconst (v := 0) dX2_takeOver_33 (by decide) rfl ?_
  refine jr_iconst (v := 4) dX2_takeOver_34 (by decide) rfl ?_
  obtain ⟨hb_1, hF⟩ := jck_e hF
  refine jh_copy (ci := 2) (k := 3) (ci1 := 2) (k1 := 3) (lw_g_of 492 (by decide +kernel) (by decide +kernel)) (lw_g_of 494 (by decide +kernel) (by decide +kernel)) (lw_g_of 493 (by decide +kernel) (by decide +kernel)) (lw_g_of 61 (by decide +kernel) (by decide +kernel)) hc_o1 hb_o1 (by decide) rfl rfl hc_o hb_o (by decide) rfl rfl hb_1 (by decide) (by decide) dX2_takeOver_35 rfl (fun M_4 eM_4 => ?_)
  have hF := jlet_e hF M_4 eM_4
  refine jr_aload_n 1 dX2_takeOver_38 rfl rfl rfl ?_
  refine gf_X2_25 rfl hc_o1 hb_o1 dX2_takeOver_39 rfl ?_
  refine jr_iconst (v := 0) dX2_takeOver_42 (by decide) rfl ?_
  refine jr_aload_n 0 dX2_takeOver_43 rfl rfl rfl ?_
  refine gf_X2_25 rfl hc_o hb_o dX2_takeOver_44 rfl ?_
  refine jr_iconst (v := 0) dX2_takeOver_47 (by decide) rfl ?_
  refine jr_bipush (v := 6) dX2_takeOver_48 (by decide) rfl ?_
  obtain ⟨hb_2, hF⟩ := jck_e hF
  refine jh_copy (ci := 2) (k := 4) (ci1 := 2) (k1 := 4) (lw_g_of 492 (by decide +kernel) (by decide +kernel)) (lw_g_of 494 (by decide +kernel) (by decide +kernel)) (lw_g_of 493 (by decide +kernel) (by decide +kernel)) (lw_g_of 61 (by decide +kernel) (by decide +kernel)) hc_o1 hb_o1 (by decide) rfl rfl hc_o hb_o (by decide) rfl rfl hb_2 (by decide) (by decide) dX2_takeOver_50 rfl (fun M_5 eM_5 => ?_)
  have hF := jlet_e hF M_5 eM_5
  refine jr_aload_n 1 dX2_takeOver_53 rfl rfl rfl ?_
  refine gf_X2_28 rfl hc_o1 hb_o1 dX2_takeOver_54 rfl ?_
  refine jr_iconst (v := 0) dX2_takeOver_57 (by decide) rfl ?_
  refine jr_aload_n 0 dX2_takeOver_58 rfl rfl rfl ?_
  refine gf_X2_28 rfl hc_o hb_o dX2_takeOver_59 rfl ?_
  refine jr_iconst (v := 0) dX2_takeOver_62 (by decide) rfl ?_
  refine jr_bipush (v := 6) dX2_takeOver_63 (by decide) rfl ?_
  obtain ⟨hb_3, hF⟩ := jck_e hF
  refine jh_copy (ci := 2) (k := 5) (ci1 := 2) (k1 := 5) (lw_g_of 492 (by decide +kernel) (by decide +kernel)) (lw_g_of 494 (by decide +kernel) (by decide +kernel)) (lw_g_of 493 (by decide +kernel) (by decide +kernel)) (lw_g_of 61 (by decide +kernel) (by decide +kernel)) hc_o1 hb_o1 (by decide) rfl rfl hc_o hb_o (by decide) rfl rfl hb_3 (by decide) (by decide) dX2_takeOver_65 rfl (fun M_6 eM_6 => ?_)
  have hF := jlet_e hF M_6 eM_6
  refine jr_aload_n 1 dX2_takeOver_68 rfl rfl rfl ?_
  refine gf_X2_31 rfl hc_o1 hb_o1 dX2_takeOver_69 rfl ?_
  refine jr_iconst (v := 0) dX2_takeOver_72 (by decide) rfl ?_
  refine jr_aload_n 0 dX2_takeOver_73 rfl rfl rfl ?_
  refine gf_X2_31 rfl hc_o hb_o dX2_takeOver_74 rfl ?_
  refine jr_iconst (v := 0) dX2_takeOver_77 (by decide) rfl ?_
  refine jr_bipush (v := 6) dX2_takeOver_78 (by decide) rfl ?_
  obtain ⟨hb_4, hF⟩ := jck_e hF
  refine jh_copy (ci := 2) (k := 6) (ci1 := 2) (k1 := 6) (lw_g_of 492 (by decide +kernel) (by decide +kernel)) (lw_g_of 494 (by decide +kernel) (by decide +kernel)) (lw_g_of 493 (by decide +kernel) (by decide +kernel)) (lw_g_of 61 (by decide +kernel) (by decide +kernel)) hc_o1 hb_o1 (by decide) rfl rfl hc_o hb_o (by decide) rfl rfl hb_4 (by decide) (by decide) dX2_takeOver_80 rfl (fun M_7 eM_7 => ?_)
  have hF := jlet_e hF M_7 eM_7
  exact jh_vret rfl dX2_takeOver_83 hF
set_option maxHeartbeats 4000000 in
set_option maxRecDepth 100000 in
theorem JF_X2_addWill {E : jx_E} (hB : ∀ o, o < 8 → jB E o) {o : Nat} (ho_o : o = 3 ∨ o = 6) {a1 : Int32} {a2 : Int32} {a3 : Int32} {M : jx_M} {r : Unit} {M' : jx_M} (hF : F_X2_addWill o a1 a2 a3 M = some (r, M')) : jC E yX2_addWill cX2_addWill 4 none rm_X2_addWill [.ref (ja E o 0), .int a1, .int a2, .int a3] M (fun x M'' => x = none ∧ M'' = M') := by
  have hc_o : jx_c o = 2 := by rcases ho_o with rfl | rfl <;> rfl
  have hb_o : jB E o := hB o (by omega)
  refine jC.ofJ (L := [(0, .ref (ja E o 0)), (1, .int a1), (2, .int a2), (3, .int a3)]) (by decide +kernel) (Nat.le_of_ble_eq_true rfl) rfl ?_
  unfold F_X2_addWill at hF
  refine jr_aload_n 0 dX2_addWill_0 rfl rfl rfl ?_
  refine gf_X2_18 rfl hc_o hb_o dX2_addWill_1 rfl ?_
  refine jr_bipush (v := 6) dX2_addWill_4 (by decide) rfl ?_
  refine jr_icmp_le 10 dX2_addWill_6 (by decide) rfl (fun c1 => ?_) (fun c1 => ?_)
  · have hF := jif_p hF c1
    refine jr_aload_n 0 dX2_addWill_10 rfl rfl rfl ?_
    refine gf_X2_25 rfl hc_o hb_o dX2_addWill_11 rfl ?_
    refine jr_aload_n 0 dX2_addWill_14 rfl rfl rfl ?_
    refine gf_X2_18 rfl hc_o hb_o dX2_addWill_15 rfl ?_
    refine jr_iload_n 1 dX2_addWill_18 rfl rfl rfl ?_
    obtain ⟨hb_1, hF⟩ := jck_e hF
    refine jh_iast (ci := 2) (k := 4) hc_o hb_o (by decide) rfl rfl hb_1 dX2_addWill_19 rfl (fun M_1 eM_1 => ?_)
    have hF := jlet_e hF M_1 eM_1
    refine jr_aload_n 0 dX2_addWill_20 rfl rfl rfl ?_
    refine gf_X2_28 rfl hc_o hb_o dX2_addWill_21 rfl ?_
    refine jr_aload_n 0 dX2_addWill_24 rfl rfl rfl ?_
    refine gf_X2_18 rfl hc_o hb_o dX2_addWill_25 rfl ?_
    refine jr_iload_n 2 dX2_addWill_28 rfl rfl rfl ?_
    obtain ⟨hb_2, hF⟩ := jck_e hF
    refine jh_iast (ci := 2) (k := 5) hc_o hb_o (by decide) rfl rfl hb_2 dX2_addWill_29 rfl (fun M_2 eM_2 => ?_)
    have hF := jlet_e hF M_2 eM_2
    refine jr_aload_n 0 dX2_addWill_30 rfl rfl rfl ?_
    refine gf_X2_31 rfl hc_o hb_o dX2_addWill_31 rfl ?_
    refine jr_aload_n 0 dX2_addWill_34 rfl rfl rfl ?_
    refine gf_X2_18 rfl hc_o hb_o dX2_addWill_35 rfl ?_
    refine jr_iload_n 3 dX2_addWill_38 rfl rfl rfl ?_
    obtain ⟨hb_3, hF⟩ := jck_e hF
    refine jh_iast (ci := 2) (k := 6) hc_o hb_o (by decide) rfl rfl hb_3 dX2_addWill_39 rfl (fun M_3 eM_3 => ?_)
    have hF := jlet_e hF M_3 eM_3
    refine jr_aload_n 0 dX2_addWill_40 rfl rfl rfl ?_
    refine jr_dup dX2_addWill_41 rfl rfl ?_
    refine gf_X2_18 rfl hc_o hb_o dX2_addWill_42 rfl ?_
    refine jr_iconst (v := 1) dX2_addWill_45 (by decide) rfl ?_
    refine jr_iadd dX2_addWill_46 rfl ?_
    refine pf_X2_18 rfl hc_o hb_o dX2_addWill_47 ⟨rfl, rfl⟩ rfl (fun M_4 eM_4 => ?_)
    have hF := jlet_e hF M_4 eM_4
    exact jh_vret rfl dX2_addWill_50 hF
  · have hF := jif_n hF c1
    exact jh_vret rfl dX2_addWill_9 hF
set_option maxHeartbeats 4000000 in
set_option maxRecDepth 100000 in
theorem JF_X3_addReading {E : jx_E} (hB : ∀ o, o < 8 → jB E o) {a1 : Int32} {a2 : Int32} {a3 : Int32} {M : jx_M} {r : Unit} {M' : jx_M} (hF : F_X3_addReading a1 a2 a3 M = some (r, M')) : jC E yX3_addReading cX3_addReading 4 none rm_X3_addReading [.ref (ja E 4 0), .int a1, .int a2, .int a3] M (fun x M'' => x = none ∧ M'' = M') := by
  refine jC.ofJ (L := [(0, .ref (ja E 4 0)), (1, .int a1), (2, .int a2), (3, .int a3)]) (by decide +kernel) (Nat.le_of_ble_eq_true rfl) rfl ?_
  unfold F_X3_addReading at hF
  refine jr_aload_n 0 dX3_addReading_0 rfl rfl rfl ?_
  refine gf_X3_15 rfl rfl (hB 4 (by decide)) dX3_addReading_1 rfl ?_
  refine jr_aload_n 0 dX3_addReading_4 rfl rfl rfl ?_
  refine gf_X3_9 rfl rfl (hB 4 (by decide)) dX3_addReading_5 rfl ?_
  refine jr_iload_n 1 dX3_addReading_8 rfl rfl rfl ?_
  obtain ⟨hb_1, hF⟩ := jck_e hF
  refine jh_iast (ci := 3) (k := 1) rfl (hB 4 (by decide)) (by decide) rfl rfl hb_1 dX3_addReading_9 rfl (fun M_1 eM_1 => ?_)
  have hF := jlet_e hF M_1 eM_1
  refine jr_aload_n 0 dX3_addReading_10 rfl rfl rfl ?_
  refine gf_X3_19 rfl rfl (hB 4 (by decide)) dX3_addReading_11 rfl ?_
  refine jr_aload_n 0 dX3_addReading_14 rfl rfl rfl ?_
  refine gf_X3_9 rfl rfl (hB 4 (by decide)) dX3_addReading_15 rfl ?_
  refine jr_iload_n 2 dX3_addReading_18 rfl rfl rfl ?_
  obtain ⟨hb_2, hF⟩ := jck_e hF
  refine jh_iast (ci := 3) (k := 2) rfl (hB 4 (by decide)) (by decide) rfl rfl hb_2 dX3_addReading_19 rfl (fun M_2 eM_2 => ?_)
  have hF := jlet_e hF M_2 eM_2
  refine jr_aload_n 0 dX3_addReading_20 rfl rfl rfl ?_
  refine gf_X3_22 rfl rfl (hB 4 (by decide)) dX3_addReading_21 rfl ?_
  refine jr_aload_n 0 dX3_addReading_24 rfl rfl rfl ?_
  refine gf_X3_9 rfl rfl (hB 4 (by decide)) dX3_addReading_25 rfl ?_
  refine jr_iload_n 3 dX3_addReading_28 rfl rfl rfl ?_
  obtain ⟨hb_3, hF⟩ := jck_e hF
  refine jh_iast (ci := 3) (k := 3) rfl (hB 4 (by decide)) (by decide) rfl rfl hb_3 dX3_addReading_29 rfl (fun M_3 eM_3 => ?_)
  have hF := jlet_e hF M_3 eM_3
  refine jr_aload_n 0 dX3_addReading_30 rfl rfl rfl ?_
  refine jr_dup dX3_addReading_31 rfl rfl ?_
  refine gf_X3_9 rfl rfl (hB 4 (by decide)) dX3_addReading_32 rfl ?_
  refine jr_iconst (v := 1) dX3_addReading_35 (by decide) rfl ?_
  refine jr_iadd dX3_addReading_36 rfl ?_
  refine pf_X3_9 rfl rfl (hB 4 (by decide)) dX3_addReading_37 ⟨rfl, rfl⟩ rfl (fun M_4 eM_4 => ?_)
  have hF := jlet_e hF M_4 eM_4
  exact jh_vret rfl dX3_addReading_40 hF
set_option maxHeartbeats 4000000 in
set_option maxRecDepth 100000 in
theorem JL_X3_lastDecade_4 {E : jx_E} (hB : ∀ o, o < 8 → jB E o) {k : Int32 → jx_M → Option (Int32 × jx_M)} {r : Int32} {M' : jx_M} (hk : ∀ (z1 : Int32) (M : jx_M), k z1 M = some (r, M') → jJ E yX3_lastDecade cX3_lastDecade 3 (some FieldType.int) rm_X3_lastDecade (fun x M'' => x = some (.int r) ∧ M'' = M') 29 [(1, .int z1)] [] M) : ∀ (n : Nat) (z1 : Int32) (z2 : Int32) (M : jx_M), L_X3_lastDecade_4 k n z1 z2 M = some (r, M') → jJ E yX3_lastDecade cX3_lastDecade 3 (some FieldType.int) rm_X3_lastDecade (fun x M'' => x = some (.int r) ∧ M'' = M') 4 [(0, .ref (ja E 4 0)), (1, .int z1), (2, .int z2)] [] M := by
  intro n
  induction n with
  | zero => intro z1 z2 M hF; exact nomatch (show (none : Option (Int32 × jx_M)) = some _ from hF)
  | succ n ih =>
    intro z1 z2 M hF
    rw [L_X3_lastDecade_4.eq_2] at hF
    refine jr_iload_n 2 dX3_lastDecade_4 rfl rfl rfl ?_
    refine jr_aload_n 0 dX3_lastDecade_5 rfl rfl rfl ?_
    refine gf_X3_9 rfl rfl (hB 4 (by decide)) dX3_lastDecade_6 rfl ?_
    refine jr_icmp_ge 29 dX3_lastDecade_9 (by decide) rfl (fun c1 => ?_) (fun c1 => ?_)
    · have hF := jif_p hF c1
      refine jr_sub [1] rfl ?_
      exact hk z1 M hF
    · have hF := jif_n hF c1
      refine jr_iload_n 1 dX3_lastDecade_12 rfl rfl rfl ?_
      refine jr_aload_n 0 dX3_lastDecade_13 rfl rfl rfl ?_
      refine gf_X3_19 rfl rfl (hB 4 (by decide)) dX3_lastDecade_14 rfl ?_
      refine jr_iload_n 2 dX3_lastDecade_17 rfl rfl rfl ?_
      obtain ⟨hb_1, hF⟩ := jck_e hF
      refine jh_iald (ci := 3) (k := 2) rfl (hB 4 (by decide)) (by decide) rfl rfl hb_1 dX3_lastDecade_18 rfl ?_
      refine jh_max (lw_g_of 549 (by decide +kernel) (by decide +kernel)) (lw_g_of 550 (by decide +kernel) (by decide +kernel)) (lw_g_of 59 (by decide +kernel) (by decide +kernel)) (lw_g_of 551 (by decide +kernel) (by decide +kernel)) (by decide) (by decide) dX3_lastDecade_19 rfl ?_
      refine jr_topi (fun x1_1 ex1_1 => ?_)
      have hF := jlet_e hF x1_1 ex1_1
      refine jr_istore_n (L' := [(1, .int x1_1), (0, .ref (ja E 4 0)), (2, .int z2)]) dX3_lastDecade_22 rfl (by decide) rfl rfl ?_
      obtain ⟨x2_1, ex2_1⟩ : ∃ z : Int32, z = z2 + 1 := ⟨_, rfl⟩
      have hF := jlet_e hF x2_1 ex2_1
      refine jr_iinc (v := x2_1) (L' := [(2, .int x2_1), (1, .int x1_1), (0, .ref (ja E 4 0))]) 2 dX3_lastDecade_23 rfl (by rw [ex2_1]; rfl) (by decide) rfl rfl ?_
      refine jr_goto 4 dX3_lastDecade_26 (by decide) ?_
      refine jr_sub [2, 1, 0] rfl ?_
      exact ih x1_1 x2_1 M hF
set_option maxHeartbeats 4000000 in
set_option maxRecDepth 100000 in
theorem JF_X3_lastDecade {E : jx_E} (hB : ∀ o, o < 8 → jB E o) {M : jx_M} {r : Int32} {M' : jx_M} (hF : F_X3_lastDecade  M = some (r, M')) : jC E yX3_lastDecade cX3_lastDecade 3 (some FieldType.int) rm_X3_lastDecade [.ref (ja E 4 0)] M (fun x M'' => x = some (.int r) ∧ M'' = M') := by
  refine jC.ofJ (L := [(0, .ref (ja E 4 0))]) (by decide +kernel) (Nat.le_of_ble_eq_true rfl) rfl ?_
  unfold F_X3_lastDecade at hF
  refine jr_iconst (v := (-1)) dX3_lastDecade_0 (by decide) rfl ?_
  refine jr_istore_n (L' := [(1, .int (-1)), (0, .ref (ja E 4 0))]) dX3_lastDecade_1 rfl (by decide) rfl rfl ?_
  refine jr_iconst (v := 0) dX3_lastDecade_2 (by decide) rfl ?_
  refine jr_istore_n (L' := [(2, .int 0), (1, .int (-1)), (0, .ref (ja E 4 0))]) dX3_lastDecade_3 rfl (by decide) rfl rfl ?_
  refine jr_sub [2, 1, 0] rfl ?_
  refine JL_X3_lastDecade_4 hB (fun x1_2 M_1 hF => ?_) jfu (-1) 0 M hF
  refine jr_iload_n 0 dX3_lastDecade_29 rfl rfl rfl ?_
  exact jh_iret rfl dX3_lastDecade_30 hF
set_option maxHeartbeats 4000000 in
set_option maxRecDepth 100000 in
theorem JL_X3_areSo_2 {E : jx_E} (hB : ∀ o, o < 8 → jB E o) {o : Nat} (ho_o : o = 5 ∨ o = 7) {k : jx_M → Option (Int32 × jx_M)} {r : Int32} {M' : jx_M} (hk : ∀ (M : jx_M), k M = some (r, M') → jJ E yX3_areSo cX3_areSo 3 (some FieldType.boolean) rm_X3_areSo (fun x M'' => x = some (.int r) ∧ M'' = M') 43 [] [] M) : ∀ (n : Nat) (z2 : Int32) (M : jx_M), L_X3_areSo_2 o k n z2 M = some (r, M') → jJ E yX3_areSo cX3_areSo 3 (some FieldType.boolean) rm_X3_areSo (fun x M'' => x = some (.int r) ∧ M'' = M') 2 [(0, .ref (ja E 4 0)), (1, .ref (ja E o 0)), (2, .int z2)] [] M := by
  have hc_o : jx_c o = 0 := by rcases ho_o with rfl | rfl <;> rfl
  have hb_o : jB E o := hB o (by omega)
  intro n
  induction n with
  | zero => intro z2 M hF; exact nomatch (show (none : Option (Int32 × jx_M)) = some _ from hF)
  | succ n ih =>
    intro z2 M hF
    rw [L_X3_areSo_2.eq_2] at hF
    refine jr_iload_n 2 dX3_areSo_2 rfl rfl rfl ?_
    refine jr_aload_n 0 dX3_areSo_3 rfl rfl rfl ?_
    refine gf_X3_9 rfl rfl (hB 4 (by decide)) dX3_areSo_4 rfl ?_
    refine jr_icmp_ge 43 dX3_areSo_7 (by decide) rfl (fun c1 => ?_) (fun c1 => ?_)
    · have hF := jif_p hF c1
      refine jr_sub [] rfl ?_
      exact hk M hF
    · have hF := jif_n hF c1
      refine jr_aload_n 1 dX3_areSo_10 rfl rfl rfl ?_
      refine jr_aload_n 0 dX3_areSo_11 rfl rfl rfl ?_
      refine gf_X3_15 rfl rfl (hB 4 (by decide)) dX3_areSo_12 rfl ?_
      refine jr_iload_n 2 dX3_areSo_15 rfl rfl rfl ?_
      obtain ⟨hb_1, hF⟩ := jck_e hF
      refine jh_iald (ci := 3) (k := 1) rfl (hB 4 (by decide)) (by decide) rfl rfl hb_1 dX3_areSo_16 rfl ?_
      refine jr_aload_n 0 dX3_areSo_17 rfl rfl rfl ?_
      refine gf_X3_19 rfl rfl (hB 4 (by decide)) dX3_areSo_18 rfl ?_
      refine jr_iload_n 2 dX3_areSo_21 rfl rfl rfl ?_
      obtain ⟨hb_2, hF⟩ := jck_e hF
      refine jh_iald (ci := 3) (k := 2) rfl (hB 4 (by decide)) (by decide) rfl rfl hb_2 dX3_areSo_22 rfl ?_
      obtain ⟨r_1, M_1, hc_1, hF⟩ := jbd_e hF
      refine jh_callV1 (v := .int r_1) (o := o) (as := [.int (jx_r M 4 1 z2), .int (jx_r M 4 2 z2)]) (st := []) (JF_X0_guardAt hB ho_o hc_1) cw_X3_31 (iv_X0_guardAt) ⟨rfl, rfl, by decide, by decide⟩ (by rw [hc_o]; rfl) hb_o rfl rfl (Nat.le_of_ble_eq_true rfl) dX3_areSo_23 rfl ?_
      refine jr_aload_n 0 dX3_areSo_26 rfl rfl rfl ?_
      refine gf_X3_22 rfl rfl (hB 4 (by decide)) dX3_areSo_27 rfl ?_
      refine jr_iload_n 2 dX3_areSo_30 rfl rfl rfl ?_
      obtain ⟨hb_3, hF⟩ := jck_e hF
      refine jh_iald (ci := 3) (k := 3) rfl (hB 4 (by decide)) (by decide) rfl rfl hb_3 dX3_areSo_31 rfl ?_
      refine jr_icmp_eq 37 dX3_areSo_32 (by decide) rfl (fun c1 => ?_) (fun c1 => ?_)
      · have hF := jif_p hF c1
        obtain ⟨x2_1, ex2_1⟩ : ∃ z : Int32, z = z2 + 1 := ⟨_, rfl⟩
        have hF := jlet_e hF x2_1 ex2_1
        refine jr_iinc (v := x2_1) (L' := [(2, .int x2_1), (0, .ref (ja E 4 0)), (1, .ref (ja E o 0))]) 2 dX3_areSo_37 rfl (by rw [ex2_1]; rfl) (by decide) rfl rfl ?_
        refine jr_goto 2 dX3_areSo_40 (by decide) ?_
        refine jr_sub [1, 2, 0] rfl ?_
        exact ih x2_1 M_1 hF
      · have hF := jif_n hF c1
        refine jr_iconst (v := 0) dX3_areSo_35 (by decide) rfl ?_
        exact jh_zret rfl (Or.inl rfl) dX3_areSo_36 hF
set_option maxHeartbeats 4000000 in
set_option maxRecDepth 100000 in
theorem JF_X3_areSo {E : jx_E} (hB : ∀ o, o < 8 → jB E o) {o : Nat} (ho_o : o = 5 ∨ o = 7) {M : jx_M} {r : Int32} {M' : jx_M} (hF : F_X3_areSo o M = some (r, M')) : jC E yX3_areSo cX3_areSo 3 (some FieldType.boolean) rm_X3_areSo [.ref (ja E 4 0), .ref (ja E o 0)] M (fun x M'' => x = some (.int r) ∧ M'' = M') := by
  have hc_o : jx_c o = 0 := by rcases ho_o with rfl | rfl <;> rfl
  have hb_o : jB E o := hB o (by omega)
  refine jC.ofJ (L := [(0, .ref (ja E 4 0)), (1, .ref (ja E o 0))]) (by decide +kernel) (Nat.le_of_ble_eq_true rfl) rfl ?_
  unfold F_X3_areSo at hF
  refine jr_iconst (v := 0) dX3_areSo_0 (by decide) rfl ?_
  refine jr_istore_n (L' := [(2, .int 0), (0, .ref (ja E 4 0)), (1, .ref (ja E o 0))]) dX3_areSo_1 rfl (by decide) rfl rfl ?_
  refine jr_sub [1, 2, 0] rfl ?_
  refine JL_X3_areSo_2 hB ho_o (fun M_2 hF => ?_) jfu 0 M hF
  refine jr_iconst (v := 1) dX3_areSo_43 (by decide) rfl ?_
  exact jh_zret rfl (Or.inr rfl) dX3_areSo_44 hF
set_option maxHeartbeats 4000000 in
set_option maxRecDepth 100000 in
theorem JF_X4_has {E : jx_E} (hB : ∀ o, o < 8 → jB E o) {a1 : Int32} {M : jx_M} {r : Int32} {M' : jx_M} (hF : F_X4_has a1 M = some (r, M')) : jC E yX4_has cX4_has 2 (some FieldType.boolean) rm_X4_has [.ref (ja E 1 0), .int a1] M (fun x M'' => x = some (.int r) ∧ M'' = M') := by
  refine jC.ofJ (L := [(0, .ref (ja E 1 0)), (1, .int a1)]) (by decide +kernel) (Nat.le_of_ble_eq_true rfl) rfl ?_
  unfold F_X4_has at hF
  refine jr_aload_n 0 dX4_has_0 rfl rfl rfl ?_
  refine gf_X4_9 rfl rfl (hB 1 (by decide)) dX4_has_1 rfl ?_
  refine jr_iload_n 1 dX4_has_4 rfl rfl rfl ?_
  obtain ⟨hb_1, hF⟩ := jck_e hF
  refine jh_iald (ci := 4) (k := 0) rfl (hB 1 (by decide)) (by decide) rfl rfl hb_1 dX4_has_5 rfl ?_
  refine jr_bipush (v := (-9)) dX4_has_6 (by decide) rfl ?_
  refine jr_icmp_eq 15 dX4_has_8 (by decide) rfl (fun c1 => ?_) (fun c1 => ?_)
  · have hF := jif_p hF c1
    refine jr_iconst (v := 0) dX4_has_15 (by decide) rfl ?_
    exact jh_zret rfl (Or.inl rfl) dX4_has_16 hF
  · have hF := jif_n hF c1
    refine jr_iconst (v := 1) dX4_has_11 (by decide) rfl ?_
    refine jr_goto 16 dX4_has_12 (by decide) ?_
    exact jh_zret rfl (Or.inr rfl) dX4_has_16 hF
set_option maxHeartbeats 4000000 in
set_option maxRecDepth 100000 in
theorem JL_X4_lay_17 {E : jx_E} (hB : ∀ o, o < 8 → jB E o) {y1 : Int32} {y3 : Int32} {k : jx_M → Option (Unit × jx_M)} {r : Unit} {M' : jx_M} (hk : ∀ (M : jx_M), k M = some (r, M') → jJ E yX4_lay cX4_lay 5 none rm_X4_lay (fun x M'' => x = none ∧ M'' = M') 42 [] [] M) : ∀ (n : Nat) (z4 : Int32) (M : jx_M), L_X4_lay_17 y1 y3 k n z4 M = some (r, M') → jJ E yX4_lay cX4_lay 5 none rm_X4_lay (fun x M'' => x = none ∧ M'' = M') 17 [(0, .ref (ja E 1 0)), (1, .int y1), (3, .int y3), (4, .int z4)] [] M := by
  intro n
  induction n with
  | zero => intro z4 M hF; exact nomatch (show (none : Option (Unit × jx_M)) = some _ from hF)
  | succ n ih =>
    intro z4 M hF
    rw [L_X4_lay_17.eq_2] at hF
    refine jr_iload 3 dX4_lay_17 rfl rfl ?_
    refine jr_iload_n 2 dX4_lay_19 rfl rfl rfl ?_
    refine jr_icmp_ge 42 dX4_lay_20 (by decide) rfl (fun c1 => ?_) (fun c1 => ?_)
    · have hF := jif_p hF c1
      refine jr_sub [] rfl ?_
      exact hk M hF
    · have hF := jif_n hF c1
      refine jr_aload_n 0 dX4_lay_23 rfl rfl rfl ?_
      refine gf_X4_18 rfl rfl (hB 1 (by decide)) dX4_lay_24 rfl ?_
      refine jr_iload_n 1 dX4_lay_27 rfl rfl rfl ?_
      refine jr_bipush (v := 60) dX4_lay_28 (by decide) rfl ?_
      refine jr_imul dX4_lay_30 rfl ?_
      refine jr_iload 3 dX4_lay_31 rfl rfl ?_
      refine jr_iadd dX4_lay_33 rfl ?_
      refine jr_iconst (v := 0) dX4_lay_34 (by decide) rfl ?_
      obtain ⟨hb_3, hF⟩ := jck_e hF
      refine jh_iast (ci := 4) (k := 2) rfl (hB 1 (by decide)) (by decide) rfl rfl hb_3 dX4_lay_35 rfl (fun M_3 eM_3 => ?_)
      have hF := jlet_e hF M_3 eM_3
      obtain ⟨x4_1, ex4_1⟩ : ∃ z : Int32, z = z4 + 1 := ⟨_, rfl⟩
      have hF := jlet_e hF x4_1 ex4_1
      refine jr_iinc (v := x4_1) (L' := [(4, .int x4_1), (0, .ref (ja E 1 0)), (1, .int y1), (3, .int y3)]) 3 dX4_lay_36 rfl (by rw [ex4_1]; rfl) (by decide) rfl rfl ?_
      refine jr_goto 17 dX4_lay_39 (by decide) ?_
      refine jr_sub [1, 2, 3, 0] rfl ?_
      exact ih x4_1 M_3 hF
set_option maxHeartbeats 4000000 in
set_option maxRecDepth 100000 in
theorem JF_X4_lay {E : jx_E} (hB : ∀ o, o < 8 → jB E o) {a1 : Int32} {a2 : Int32} {a3 : Int32} {M : jx_M} {r : Unit} {M' : jx_M} (hF : F_X4_lay a1 a2 a3 M = some (r, M')) : jC E yX4_lay cX4_lay 5 none rm_X4_lay [.ref (ja E 1 0), .int a1, .int a2, .int a3] M (fun x M'' => x = none ∧ M'' = M') := by
  refine jC.ofJ (L := [(0, .ref (ja E 1 0)), (1, .int a1), (2, .int a2), (3, .int a3)]) (by decide +kernel) (Nat.le_of_ble_eq_true rfl) rfl ?_
  unfold F_X4_lay at hF
  refine jr_aload_n 0 dX4_lay_0 rfl rfl rfl ?_
  refine gf_X4_9 rfl rfl (hB 1 (by decide)) dX4_lay_1 rfl ?_
  refine jr_iload_n 1 dX4_lay_4 rfl rfl rfl ?_
  refine jr_iload_n 2 dX4_lay_5 rfl rfl rfl ?_
  obtain ⟨hb_1, hF⟩ := jck_e hF
  refine jh_iast (ci := 4) (k := 0) rfl (hB 1 (by decide)) (by decide) rfl rfl hb_1 dX4_lay_6 rfl (fun M_1 eM_1 => ?_)
  have hF := jlet_e hF M_1 eM_1
  refine jr_aload_n 0 dX4_lay_7 rfl rfl rfl ?_
  refine gf_X4_15 rfl rfl (hB 1 (by decide)) dX4_lay_8 rfl ?_
  refine jr_iload_n 1 dX4_lay_11 rfl rfl rfl ?_
  refine jr_iload_n 3 dX4_lay_12 rfl rfl rfl ?_
  obtain ⟨hb_2, hF⟩ := jck_e hF
  refine jh_iast (ci := 4) (k := 1) rfl (hB 1 (by decide)) (by decide) rfl rfl hb_2 dX4_lay_13 rfl (fun M_2 eM_2 => ?_)
  have hF := jlet_e hF M_2 eM_2
  refine jr_iconst (v := 0) dX4_lay_14 (by decide) rfl ?_
  refine jr_istore (L' := [(4, .int 0), (0, .ref (ja E 1 0)), (1, .int a1), (2, .int a2), (3, .int a3)]) dX4_lay_15 (by decide) rfl rfl ?_
  refine jr_sub [1, 2, 4, 0] rfl ?_
  refine JL_X4_lay_17 hB (fun M_4 hF => ?_) jfu 0 M_2 hF
  exact jh_vret rfl dX4_lay_42 hF
set_option maxHeartbeats 4000000 in
set_option maxRecDepth 100000 in
theorem JF_X4_drop {E : jx_E} (hB : ∀ o, o < 8 → jB E o) {a1 : Int32} {M : jx_M} {r : Unit} {M' : jx_M} (hF : F_X4_drop a1 M = some (r, M')) : jC E yX4_drop cX4_drop 2 none rm_X4_drop [.ref (ja E 1 0), .int a1] M (fun x M'' => x = none ∧ M'' = M') := by
  refine jC.ofJ (L := [(0, .ref (ja E 1 0)), (1, .int a1)]) (by decide +kernel) (Nat.le_of_ble_eq_true rfl) rfl ?_
  unfold F_X4_drop at hF
  refine jr_aload_n 0 dX4_drop_0 rfl rfl rfl ?_
  refine gf_X4_9 rfl rfl (hB 1 (by decide)) dX4_drop_1 rfl ?_
  refine jr_iload_n 1 dX4_drop_4 rfl rfl rfl ?_
  refine jr_bipush (v := (-9)) dX4_drop_5 (by decide) rfl ?_
  obtain ⟨hb_1, hF⟩ := jck_e hF
  refine jh_iast (ci := 4) (k := 0) rfl (hB 1 (by decide)) (by decide) rfl rfl hb_1 dX4_drop_7 rfl (fun M_1 eM_1 => ?_)
  have hF := jlet_e hF M_1 eM_1
  refine jr_aload_n 0 dX4_drop_8 rfl rfl rfl ?_
  refine gf_X4_15 rfl rfl (hB 1 (by decide)) dX4_drop_9 rfl ?_
  refine jr_iload_n 1 dX4_drop_12 rfl rfl rfl ?_
  refine jr_iconst (v := 0) dX4_drop_13 (by decide) rfl ?_
  obtain ⟨hb_2, hF⟩ := jck_e hF
  refine jh_iast (ci := 4) (k := 1) rfl (hB 1 (by decide)) (by decide) rfl rfl hb_2 dX4_drop_14 rfl (fun M_2 eM_2 => ?_)
  have hF := jlet_e hF M_2 eM_2
  exact jh_vret rfl dX4_drop_15 hF
set_option maxHeartbeats 4000000 in
set_option maxRecDepth 100000 in
theorem JF_X4_spans {E : jx_E} (hB : ∀ o, o < 8 → jB E o) {a1 : Int32} {a2 : Int32} {a3 : Int32} {M : jx_M} {r : Int32} {M' : jx_M} (hF : F_X4_spans a1 a2 a3 M = some (r, M')) : jC E yX4_spans cX4_spans 4 (some FieldType.boolean) rm_X4_spans [.ref (ja E 1 0), .int a1, .int a2, .int a3] M (fun x M'' => x = some (.int r) ∧ M'' = M') := by
  refine jC.ofJ (L := [(0, .ref (ja E 1 0)), (1, .int a1), (2, .int a2), (3, .int a3)]) (by decide +kernel) (Nat.le_of_ble_eq_true rfl) rfl ?_
  unfold F_X4_spans at hF
  refine jr_iload_n 2 dX4_spans_0 rfl rfl rfl ?_
  refine jr_if_lt 34 dX4_spans_1 (by decide) rfl (fun c1 => ?_) (fun c1 => ?_)
  · have hF := jif_p hF c1
    refine jr_iconst (v := 0) dX4_spans_34 (by decide) rfl ?_
    exact jh_zret rfl (Or.inl rfl) dX4_spans_35 hF
  · have hF := jif_n hF c1
    refine jr_iload_n 2 dX4_spans_4 rfl rfl rfl ?_
    refine jr_aload_n 0 dX4_spans_5 rfl rfl rfl ?_
    refine gf_X4_15 rfl rfl (hB 1 (by decide)) dX4_spans_6 rfl ?_
    refine jr_iload_n 1 dX4_spans_9 rfl rfl rfl ?_
    obtain ⟨hb_1, hF⟩ := jck_e hF
    refine jh_iald (ci := 4) (k := 1) rfl (hB 1 (by decide)) (by decide) rfl rfl hb_1 dX4_spans_10 rfl ?_
    refine jr_icmp_gt 34 dX4_spans_11 (by decide) rfl (fun c1 => ?_) (fun c1 => ?_)
    · have hF := jif_p hF c1
      refine jr_iconst (v := 0) dX4_spans_34 (by decide) rfl ?_
      exact jh_zret rfl (Or.inl rfl) dX4_spans_35 hF
    · have hF := jif_n hF c1
      refine jr_iload_n 3 dX4_spans_14 rfl rfl rfl ?_
      refine jr_if_lt 34 dX4_spans_15 (by decide) rfl (fun c1 => ?_) (fun c1 => ?_)
      · have hF := jif_p hF c1
        refine jr_iconst (v := 0) dX4_spans_34 (by decide) rfl ?_
        exact jh_zret rfl (Or.inl rfl) dX4_spans_35 hF
      · have hF := jif_n hF c1
        refine jr_iload_n 3 dX4_spans_18 rfl rfl rfl ?_
        refine jr_aload_n 0 dX4_spans_19 rfl rfl rfl ?_
        refine gf_X4_15 rfl rfl (hB 1 (by decide)) dX4_spans_20 rfl ?_
        refine jr_iload_n 1 dX4_spans_23 rfl rfl rfl ?_
        obtain ⟨hb_2, hF⟩ := jck_e hF
        refine jh_iald (ci := 4) (k := 1) rfl (hB 1 (by decide)) (by decide) rfl rfl hb_2 dX4_spans_24 rfl ?_
        refine jr_iload_n 2 dX4_spans_25 rfl rfl rfl ?_
        refine jr_isub dX4_spans_26 rfl ?_
        refine jr_icmp_gt 34 dX4_spans_27 (by decide) rfl (fun c1 => ?_) (fun c1 => ?_)
        · have hF := jif_p hF c1
          refine jr_iconst (v := 0) dX4_spans_34 (by decide) rfl ?_
          exact jh_zret rfl (Or.inl rfl) dX4_spans_35 hF
        · have hF := jif_n hF c1
          refine jr_iconst (v := 1) dX4_spans_30 (by decide) rfl ?_
          refine jr_goto 35 dX4_spans_31 (by decide) ?_
          exact jh_zret rfl (Or.inr rfl) dX4_spans_35 hF
set_option maxHeartbeats 4000000 in
set_option maxRecDepth 100000 in
theorem JF_X4_write {E : jx_E} (hB : ∀ o, o < 8 → jB E o) {a1 : Int32} {a2 : Int32} {a3 : Int32} {M : jx_M} {r : Unit} {M' : jx_M} (hF : F_X4_write a1 a2 a3 M = some (r, M')) : jC E yX4_write cX4_write 5 none rm_X4_write [.ref (ja E 1 0), .int a1, .int a2, .int a3] M (fun x M'' => x = none ∧ M'' = M') := by
  refine jC.ofJ (L := [(0, .ref (ja E 1 0)), (1, .int a1), (2, .int a2), (3, .int a3)]) (by decide +kernel) (Nat.le_of_ble_eq_true rfl) rfl ?_
  unfold F_X4_write at hF
  refine jr_iload_n 3 dX4_write_0 rfl rfl rfl ?_
  refine jr_istore (L' := [(4, .int a3), (0, .ref (ja E 1 0)), (1, .int a1), (2, .int a2), (3, .int a3)]) dX4_write_1 (by decide) rfl rfl ?_
  refine jr_aload_n 1 dX4_write_3 rfl rfl rfl ?_
  refine gf_X4_9 rfl rfl (hB 1 (by decide)) dX4_write_4 rfl ?_
  refine jr_iload_n 2 dX4_write_7 rfl rfl rfl ?_
  obtain ⟨hb_1, hF⟩ := jck_e hF
  refine jh_iald (ci := 4) (k := 0) rfl (hB 1 (by decide)) (by decide) rfl rfl hb_1 dX4_write_8 rfl ?_
  refine jr_if_ne 16 dX4_write_9 (by decide) rfl (fun c1 => ?_) (fun c1 => ?_)
  · have hF := jif_n hF c1
    refine jr_aload_n 1 dX4_write_16 rfl rfl rfl ?_
    refine gf_X4_9 rfl rfl (hB 1 (by decide)) dX4_write_17 rfl ?_
    refine jr_iload_n 2 dX4_write_20 rfl rfl rfl ?_
    obtain ⟨hb_2, hF⟩ := jck_e hF
    refine jh_iald (ci := 4) (k := 0) rfl (hB 1 (by decide)) (by decide) rfl rfl hb_2 dX4_write_21 rfl ?_
    refine jr_iconst (v := 1) dX4_write_22 (by decide) rfl ?_
    refine jr_icmp_ne 30 dX4_write_23 (by decide) rfl (fun c1 => ?_) (fun c1 => ?_)
    · have hF := jif_n hF c1
      refine jr_aload_n 1 dX4_write_30 rfl rfl rfl ?_
      refine gf_X4_18 rfl rfl (hB 1 (by decide)) dX4_write_31 rfl ?_
      refine jr_iload_n 2 dX4_write_34 rfl rfl rfl ?_
      refine jr_bipush (v := 60) dX4_write_35 (by decide) rfl ?_
      refine jr_imul dX4_write_37 rfl ?_
      refine jr_iload_n 3 dX4_write_38 rfl rfl rfl ?_
      refine jr_iadd dX4_write_39 rfl ?_
      refine jr_iload 0 dX4_write_40 rfl rfl ?_
      obtain ⟨hb_3, hF⟩ := jck_e hF
      refine jh_iast (ci := 4) (k := 2) rfl (hB 1 (by decide)) (by decide) rfl rfl hb_3 dX4_write_42 rfl (fun M_1 eM_1 => ?_)
      have hF := jlet_e hF M_1 eM_1
      exact jh_vret rfl dX4_write_43 hF
    · have hF := jif_p hF c1
      refine jr_iload_n 4 dX4_write_26 rfl rfl rfl ?_
      refine jr_i2s dX4_write_27 rfl ?_
      refine jr_topi (fun x4_1 ex4_1 => ?_)
      have hF := jlet_e hF x4_1 ex4_1
      refine jr_istore (L' := [(4, .int x4_1), (0, .ref (ja E 1 0)), (1, .int a1), (2, .int a2), (3, .int a3)]) dX4_write_28 (by decide) rfl rfl ?_
      refine jr_aload_n 1 dX4_write_30 rfl rfl rfl ?_
      refine gf_X4_18 rfl rfl (hB 1 (by decide)) dX4_write_31 rfl ?_
      refine jr_iload_n 2 dX4_write_34 rfl rfl rfl ?_
      refine jr_bipush (v := 60) dX4_write_35 (by decide) rfl ?_
      refine jr_imul dX4_write_37 rfl ?_
      refine jr_iload_n 3 dX4_write_38 rfl rfl rfl ?_
      refine jr_iadd dX4_write_39 rfl ?_
      refine jr_iload 0 dX4_write_40 rfl rfl ?_
      obtain ⟨hb_4, hF⟩ := jck_e hF
      refine jh_iast (ci := 4) (k := 2) rfl (hB 1 (by decide)) (by decide) rfl rfl hb_4 dX4_write_42 rfl (fun M_2 eM_2 => ?_)
      have hF := jlet_e hF M_2 eM_2
      exact jh_vret rfl dX4_write_43 hF
  · have hF := jif_p hF c1
    refine jr_iload_n 4 dX4_write_12 rfl rfl rfl ?_
    refine jr_i2b dX4_write_13 rfl ?_
    refine jr_topi (fun x4_2 ex4_2 => ?_)
    have hF := jlet_e hF x4_2 ex4_2
    refine jr_istore (L' := [(4, .int x4_2), (0, .ref (ja E 1 0)), (1, .int a1), (2, .int a2), (3, .int a3)]) dX4_write_14 (by decide) rfl rfl ?_
    refine jr_aload_n 1 dX4_write_16 rfl rfl rfl ?_
    refine gf_X4_9 rfl rfl (hB 1 (by decide)) dX4_write_17 rfl ?_
    refine jr_iload_n 2 dX4_write_20 rfl rfl rfl ?_
    obtain ⟨hb_5, hF⟩ := jck_e hF
    refine jh_iald (ci := 4) (k := 0) rfl (hB 1 (by decide)) (by decide) rfl rfl hb_5 dX4_write_21 rfl ?_
    refine jr_iconst (v := 1) dX4_write_22 (by decide) rfl ?_
    refine jr_icmp_ne 30 dX4_write_23 (by decide) rfl (fun c1 => ?_) (fun c1 => ?_)
    · have hF := jif_n hF c1
      refine jr_aload_n 1 dX4_write_30 rfl rfl rfl ?_
      refine gf_X4_18 rfl rfl (hB 1 (by decide)) dX4_write_31 rfl ?_
      refine jr_iload_n 2 dX4_write_34 rfl rfl rfl ?_
      refine jr_bipush (v := 60) dX4_write_35 (by decide) rfl ?_
      refine jr_imul dX4_write_37 rfl ?_
      refine jr_iload_n 3 dX4_write_38 rfl rfl rfl ?_
      refine jr_iadd dX4_write_39 rfl ?_
      refine jr_iload 0 dX4_write_40 rfl rfl ?_
      obtain ⟨hb_6, hF⟩ := jck_e hF
      refine jh_iast (ci := 4) (k := 2) rfl (hB 1 (by decide)) (by decide) rfl rfl hb_6 dX4_write_42 rfl (fun M_3 eM_3 => ?_)
      have hF := jlet_e hF M_3 eM_3
      exact jh_vret rfl dX4_write_43 hF
    · have hF := jif_p hF c1
      refine jr_iload_n 4 dX4_write_26 rfl rfl rfl ?_
      refine jr_i2s dX4_write_27 rfl ?_
      refine jr_topi (fun x4_3 ex4_3 => ?_)
      have hF := jlet_e hF x4_3 ex4_3
      refine jr_istore (L' := [(4, .int x4_3), (0, .ref (ja E 1 0)), (1, .int a1), (2, .int a2), (3, .int a3)]) dX4_write_28 (by decide) rfl rfl ?_
      refine jr_aload_n 1 dX4_write_30 rfl rfl rfl ?_
      refine gf_X4_18 rfl rfl (hB 1 (by decide)) dX4_write_31 rfl ?_
      refine jr_iload_n 2 dX4_write_34 rfl rfl rfl ?_
      refine jr_bipush (v := 60) dX4_write_35 (by decide) rfl ?_
      refine jr_imul dX4_write_37 rfl ?_
      refine jr_iload_n 3 dX4_write_38 rfl rfl rfl ?_
      refine jr_iadd dX4_write_39 rfl ?_
      refine jr_iload 0 dX4_write_40 rfl rfl ?_
      obtain ⟨hb_7, hF⟩ := jck_e hF
      refine jh_iast (ci := 4) (k := 2) rfl (hB 1 (by decide)) (by decide) rfl rfl hb_7 dX4_write_42 rfl (fun M_4 eM_4 => ?_)
      have hF := jlet_e hF M_4 eM_4
      exact jh_vret rfl dX4_write_43 hF
set_option maxHeartbeats 4000000 in
set_option maxRecDepth 100000 in
theorem JF_X4_move {E : jx_E} (hB : ∀ o, o < 8 → jB E o) {a1 : Int32} {a2 : Int32} {a3 : Int32} {a4 : Int32} {a5 : Int32} {M : jx_M} {r : Unit} {M' : jx_M} (hF : F_X4_move a1 a2 a3 a4 a5 M = some (r, M')) : jC E yX4_move cX4_move 6 none rm_X4_move [.ref (ja E 1 0), .int a1, .int a2, .int a3, .int a4, .int a5] M (fun x M'' => x = none ∧ M'' = M') := by
  refine jC.ofJ (L := [(0, .ref (ja E 1 0)), (1, .int a1), (2, .int a2), (3, .int a3), (4, .int a4), (5, .int a5)]) (by decide +kernel) (Nat.le_of_ble_eq_true rfl) rfl ?_
  unfold F_X4_move at hF
  refine jr_aload_n 0 dX4_move_0 rfl rfl rfl ?_
  refine gf_X4_18 rfl rfl (hB 1 (by decide)) dX4_move_1 rfl ?_
  refine jr_iload_n 1 dX4_move_4 rfl rfl rfl ?_
  refine jr_bipush (v := 60) dX4_move_5 (by decide) rfl ?_
  refine jr_imul dX4_move_7 rfl ?_
  refine jr_iload_n 2 dX4_move_8 rfl rfl rfl ?_
  refine jr_iadd dX4_move_9 rfl ?_
  refine jr_aload_n 0 dX4_move_10 rfl rfl rfl ?_
  refine gf_X4_18 rfl rfl (hB 1 (by decide)) dX4_move_11 rfl ?_
  refine jr_iload_n 3 dX4_move_14 rfl rfl rfl ?_
  refine jr_bipush (v := 60) dX4_move_15 (by decide) rfl ?_
  refine jr_imul dX4_move_17 rfl ?_
  refine jr_iload 4 dX4_move_18 rfl rfl ?_
  refine jr_iadd dX4_move_20 rfl ?_
  refine jr_iload 5 dX4_move_21 rfl rfl ?_
  obtain ⟨hb_1, hF⟩ := jck_e hF
  refine jh_copy (ci := 4) (k := 2) (ci1 := 4) (k1 := 2) (lw_g_of 610 (by decide +kernel) (by decide +kernel)) (lw_g_of 494 (by decide +kernel) (by decide +kernel)) (lw_g_of 493 (by decide +kernel) (by decide +kernel)) (lw_g_of 61 (by decide +kernel) (by decide +kernel)) rfl (hB 1 (by decide)) (by decide) rfl rfl rfl (hB 1 (by decide)) (by decide) rfl rfl hb_1 (by decide) (by decide) dX4_move_23 rfl (fun M_1 eM_1 => ?_)
  have hF := jlet_e hF M_1 eM_1
  exact jh_vret rfl dX4_move_26 hF
set_option maxHeartbeats 4000000 in
set_option maxRecDepth 100000 in
theorem JF_X5_isSheet {E : jx_E} (hB : ∀ o, o < 8 → jB E o) {a0 : Int32} {M : jx_M} {r : Int32} {M' : jx_M} (hF : F_X5_isSheet a0 M = some (r, M')) : jC E yX5_isSheet cX5_isSheet 1 (some FieldType.boolean) rm_X5_isSheet [.int a0] M (fun x M'' => x = some (.int r) ∧ M'' = M') := by
  refine jC.ofJ (L := [(0, .int a0)]) (by decide +kernel) (Nat.le_of_ble_eq_true rfl) rfl ?_
  unfold F_X5_isSheet at hF
  refine jr_iload_n 0 dX5_isSheet_0 rfl rfl rfl ?_
  refine jr_if_lt 13 dX5_isSheet_1 (by decide) rfl (fun c1 => ?_) (fun c1 => ?_)
  · have hF := jif_p hF c1
    refine jr_iconst (v := 0) dX5_isSheet_13 (by decide) rfl ?_
    exact jh_zret rfl (Or.inl rfl) dX5_isSheet_14 hF
  · have hF := jif_n hF c1
    refine jr_iload_n 0 dX5_isSheet_4 rfl rfl rfl ?_
    refine jr_iconst (v := 4) dX5_isSheet_5 (by decide) rfl ?_
    refine jr_icmp_ge 13 dX5_isSheet_6 (by decide) rfl (fun c1 => ?_) (fun c1 => ?_)
    · have hF := jif_p hF c1
      refine jr_iconst (v := 0) dX5_isSheet_13 (by decide) rfl ?_
      exact jh_zret rfl (Or.inl rfl) dX5_isSheet_14 hF
    · have hF := jif_n hF c1
      refine jr_iconst (v := 1) dX5_isSheet_9 (by decide) rfl ?_
      refine jr_goto 14 dX5_isSheet_10 (by decide) ?_
      exact jh_zret rfl (Or.inr rfl) dX5_isSheet_14 hF
set_option maxHeartbeats 4000000 in
set_option maxRecDepth 100000 in
theorem JF_X5_isLane {E : jx_E} (hB : ∀ o, o < 8 → jB E o) {a0 : Int32} {M : jx_M} {r : Int32} {M' : jx_M} (hF : F_X5_isLane a0 M = some (r, M')) : jC E yX5_isLane cX5_isLane 1 (some FieldType.boolean) rm_X5_isLane [.int a0] M (fun x M'' => x = some (.int r) ∧ M'' = M') := by
  refine jC.ofJ (L := [(0, .int a0)]) (by decide +kernel) (Nat.le_of_ble_eq_true rfl) rfl ?_
  unfold F_X5_isLane at hF
  refine jr_iload_n 0 dX5_isLane_0 rfl rfl rfl ?_
  refine jr_if_lt 13 dX5_isLane_1 (by decide) rfl (fun c1 => ?_) (fun c1 => ?_)
  · have hF := jif_p hF c1
    refine jr_iconst (v := 0) dX5_isLane_13 (by decide) rfl ?_
    exact jh_zret rfl (Or.inl rfl) dX5_isLane_14 hF
  · have hF := jif_n hF c1
    refine jr_iload_n 0 dX5_isLane_4 rfl rfl rfl ?_
    refine jr_iconst (v := 3) dX5_isLane_5 (by decide) rfl ?_
    refine jr_icmp_ge 13 dX5_isLane_6 (by decide) rfl (fun c1 => ?_) (fun c1 => ?_)
    · have hF := jif_p hF c1
      refine jr_iconst (v := 0) dX5_isLane_13 (by decide) rfl ?_
      exact jh_zret rfl (Or.inl rfl) dX5_isLane_14 hF
    · have hF := jif_n hF c1
      refine jr_iconst (v := 1) dX5_isLane_9 (by decide) rfl ?_
      refine jr_goto 14 dX5_isLane_10 (by decide) ?_
      exact jh_zret rfl (Or.inr rfl) dX5_isLane_14 hF
set_option maxHeartbeats 4000000 in
set_option maxRecDepth 100000 in
theorem JF_X5_faultOfRow {E : jx_E} (hB : ∀ o, o < 8 → jB E o) {a1 : Int32} {a2 : Int32} {M : jx_M} {r : Int32} {M' : jx_M} (hF : F_X5_faultOfRow a1 a2 M = some (r, M')) : jC E yX5_faultOfRow cX5_faultOfRow 3 (some FieldType.int) rm_X5_faultOfRow [.ref (ja E 0 0), .int a1, .int a2] M (fun x M'' => x = some (.int r) ∧ M'' = M') := by
  refine jC.ofJ (L := [(0, .ref (ja E 0 0)), (1, .int a1), (2, .int a2)]) (by decide +kernel) (Nat.le_of_ble_eq_true rfl) rfl ?_
  unfold F_X5_faultOfRow at hF
  refine jr_aload_n 0 dX5_faultOfRow_0 rfl rfl rfl ?_
  refine gf_X5_15 rfl rfl (hB 0 (by decide)) dX5_faultOfRow_1 rfl ?_
  refine jr_iload_n 1 dX5_faultOfRow_4 rfl rfl rfl ?_
  obtain ⟨r_1, M_1, hc_1, hF⟩ := jbd_e hF
  refine jh_callV1 (v := .int r_1) (o := 1) (as := [.int a1]) (st := []) (JF_X4_has hB hc_1) cw_X5_229 (iv_X4_has) ⟨rfl, rfl, by decide, by decide⟩ rfl (hB 1 (by decide)) rfl rfl (Nat.le_of_ble_eq_true rfl) dX5_faultOfRow_5 rfl ?_
  refine jr_if_ne 13 dX5_faultOfRow_8 (by decide) rfl (fun c1 => ?_) (fun c1 => ?_)
  · have hF := jif_n hF c1
    refine jr_aload_n 0 dX5_faultOfRow_13 rfl rfl rfl ?_
    refine gf_X5_15 rfl rfl (hB 0 (by decide)) dX5_faultOfRow_14 rfl ?_
    refine gf_X5_242 rfl rfl (hB 1 (by decide)) dX5_faultOfRow_17 rfl ?_
    refine jr_iload_n 1 dX5_faultOfRow_20 rfl rfl rfl ?_
    obtain ⟨hb_1, hF⟩ := jck_e hF
    refine jh_iald (ci := 4) (k := 0) rfl (hB 1 (by decide)) (by decide) rfl rfl hb_1 dX5_faultOfRow_21 rfl ?_
    refine jr_iload_n 2 dX5_faultOfRow_22 rfl rfl rfl ?_
    refine jr_icmp_ne 30 dX5_faultOfRow_23 (by decide) rfl (fun c1 => ?_) (fun c1 => ?_)
    · have hF := jif_n hF c1
      refine jr_iconst (v := 2) dX5_faultOfRow_30 (by decide) rfl ?_
      exact jh_iret rfl dX5_faultOfRow_31 hF
    · have hF := jif_p hF c1
      refine jr_iconst (v := 0) dX5_faultOfRow_26 (by decide) rfl ?_
      refine jr_goto 31 dX5_faultOfRow_27 (by decide) ?_
      exact jh_iret rfl dX5_faultOfRow_31 hF
  · have hF := jif_p hF c1
    refine jr_iconst (v := 1) dX5_faultOfRow_11 (by decide) rfl ?_
    exact jh_iret rfl dX5_faultOfRow_12 hF
set_option maxHeartbeats 4000000 in
set_option maxRecDepth 100000 in
theorem JF_X5_faulty {E : jx_E} (hB : ∀ o, o < 8 → jB E o) {a1 : Int32} {M : jx_M} {r : Int32} {M' : jx_M} (hF : F_X5_faulty a1 M = some (r, M')) : jC E yX5_faulty cX5_faulty 2 (some FieldType.int) rm_X5_faulty [.ref (ja E 0 0), .int a1] M (fun x M'' => x = some (.int r) ∧ M'' = M') := by
  refine jC.ofJ (L := [(0, .ref (ja E 0 0)), (1, .int a1)]) (by decide +kernel) (Nat.le_of_ble_eq_true rfl) rfl ?_
  unfold F_X5_faulty at hF
  refine jr_aload_n 0 dX5_faulty_0 rfl rfl rfl ?_
  refine jr_iload_n 1 dX5_faulty_1 rfl rfl rfl ?_
  refine pf_X5_75 rfl rfl (hB 0 (by decide)) dX5_faulty_2 ⟨rfl, rfl⟩ rfl (fun M_1 eM_1 => ?_)
  have hF := jlet_e hF M_1 eM_1
  refine jr_bipush (v := (-10)) dX5_faulty_5 (by decide) rfl ?_
  refine jr_iload_n 1 dX5_faulty_7 rfl rfl rfl ?_
  refine jr_isub dX5_faulty_8 rfl ?_
  exact jh_iret rfl dX5_faulty_9 hF
set_option maxHeartbeats 4000000 in
set_option maxRecDepth 100000 in
theorem JF_X5_unsettle {E : jx_E} (hB : ∀ o, o < 8 → jB E o) {M : jx_M} {r : Unit} {M' : jx_M} (hF : F_X5_unsettle  M = some (r, M')) : jC E yX5_unsettle cX5_unsettle 1 none rm_X5_unsettle [.ref (ja E 0 0)] M (fun x M'' => x = none ∧ M'' = M') := by
  refine jC.ofJ (L := [(0, .ref (ja E 0 0))]) (by decide +kernel) (Nat.le_of_ble_eq_true rfl) rfl ?_
  unfold F_X5_unsettle at hF
  refine jr_aload_n 0 dX5_unsettle_0 rfl rfl rfl ?_
  refine jr_iconst (v := 0) dX5_unsettle_1 (by decide) rfl ?_
  refine pf_X5_58 rfl rfl (hB 0 (by decide)) dX5_unsettle_2 (by decide) rfl (fun M_1 eM_1 => ?_)
  have hF := jlet_e hF M_1 eM_1
  refine jr_aload_n 0 dX5_unsettle_5 rfl rfl rfl ?_
  refine jr_iconst (v := 0) dX5_unsettle_6 (by decide) rfl ?_
  refine pf_X5_62 rfl rfl (hB 0 (by decide)) dX5_unsettle_7 (by decide) rfl (fun M_2 eM_2 => ?_)
  have hF := jlet_e hF M_2 eM_2
  refine jr_aload_n 0 dX5_unsettle_10 rfl rfl rfl ?_
  refine jr_iconst (v := 0) dX5_unsettle_11 (by decide) rfl ?_
  refine pf_X5_65 rfl rfl (hB 0 (by decide)) dX5_unsettle_12 (by decide) rfl (fun M_3 eM_3 => ?_)
  have hF := jlet_e hF M_3 eM_3
  exact jh_vret rfl dX5_unsettle_15 hF
set_option maxHeartbeats 4000000 in
set_option maxRecDepth 100000 in
theorem JF_X5_land {E : jx_E} (hB : ∀ o, o < 8 → jB E o) {a1 : Int32} {a2 : Int32} {a3 : Int32} {a4 : Int32} {M : jx_M} {r : Int32} {M' : jx_M} (hF : F_X5_land a1 a2 a3 a4 M = some (r, M')) : jC E yX5_land cX5_land 7 (some FieldType.int) rm_X5_land [.ref (ja E 0 0), .int a1, .int a2, .int a3, .int a4] M (fun x M'' => x = some (.int r) ∧ M'' = M') := by
  refine jC.ofJ (L := [(0, .ref (ja E 0 0)), (1, .int a1), (2, .int a2), (3, .int a3), (4, .int a4)]) (by decide +kernel) (Nat.le_of_ble_eq_true rfl) rfl ?_
  unfold F_X5_land at hF
  refine jr_aload_n 0 dX5_land_0 rfl rfl rfl ?_
  refine jr_iconst (v := 0) dX5_land_1 (by decide) rfl ?_
  refine pf_X5_75 rfl rfl (hB 0 (by decide)) dX5_land_2 ⟨rfl, rfl⟩ rfl (fun M_1 eM_1 => ?_)
  have hF := jlet_e hF M_1 eM_1
  refine jr_iload_n 1 dX5_land_5 rfl rfl rfl ?_
  obtain ⟨r_1, M_2, hc_1, hF⟩ := jbd_e hF
  refine jh_callS1 (v := .int r_1) (as := [.int a1]) (st := []) (JF_X5_isSheet hB hc_1) cw_X5_81 (iv_X5_isSheet) ⟨rfl, rfl, by decide, by decide⟩ rfl rfl (Nat.le_of_ble_eq_true rfl) dX5_land_6 rfl ?_
  refine jr_if_ne 14 dX5_land_9 (by decide) rfl (fun c1 => ?_) (fun c1 => ?_)
  · have hF := jif_n hF c1
    refine jr_iload_n 2 dX5_land_14 rfl rfl rfl ?_
    obtain ⟨r_2, M_3, hc_2, hF⟩ := jbd_e hF
    refine jh_callS1 (v := .int r_2) (as := [.int a2]) (st := []) (JF_X5_isLane hB hc_2) cw_X5_85 (iv_X5_isLane) ⟨rfl, rfl, by decide, by decide⟩ rfl rfl (Nat.le_of_ble_eq_true rfl) dX5_land_15 rfl ?_
    refine jr_if_ne 24 dX5_land_18 (by decide) rfl (fun c1 => ?_) (fun c1 => ?_)
    · have hF := jif_n hF c1
      refine jr_aload_n 0 dX5_land_24 rfl rfl rfl ?_
      refine jr_iload_n 1 dX5_land_25 rfl rfl rfl ?_
      refine jr_iload_n 2 dX5_land_26 rfl rfl rfl ?_
      obtain ⟨r_3, M_4, hc_3, hF⟩ := jbd_e hF
      refine jh_callV1 (v := .int r_3) (o := 0) (as := [.int a1, .int a2]) (st := []) (JF_X5_faultOfRow hB hc_3) cw_X5_88 (iv_X5_faultOfRow) ⟨rfl, rfl, by decide, by decide⟩ rfl (hB 0 (by decide)) rfl rfl (Nat.le_of_ble_eq_true rfl) dX5_land_27 rfl ?_
      refine jr_istore (L' := [(5, .int r_3), (0, .ref (ja E 0 0)), (1, .int a1), (2, .int a2), (3, .int a3), (4, .int a4)]) dX5_land_30 (by decide) rfl rfl ?_
      refine jr_iload 0 dX5_land_32 rfl rfl ?_
      refine jr_if_ne 45 dX5_land_34 (by decide) rfl (fun c1 => ?_) (fun c1 => ?_)
      · have hF := jif_n hF c1
        refine jr_iload 0 dX5_land_45 rfl rfl ?_
        refine jr_if_ne 67 dX5_land_47 (by decide) rfl (fun c1 => ?_) (fun c1 => ?_)
        · have hF := jif_n hF c1
          refine jr_iload 0 dX5_land_67 rfl rfl ?_
          refine jr_if_eq 79 dX5_land_69 (by decide) rfl (fun c1 => ?_) (fun c1 => ?_)
          · have hF := jif_p hF c1
            refine jr_aload_n 1 dX5_land_79 rfl rfl rfl ?_
            refine gf_X5_15 rfl rfl (hB 0 (by decide)) dX5_land_80 rfl ?_
            refine jr_iload_n 2 dX5_land_83 rfl rfl rfl ?_
            refine jr_iload_n 4 dX5_land_84 rfl rfl rfl ?_
            refine jr_iload 5 dX5_land_85 rfl rfl ?_
            obtain ⟨r_4, M_5, hc_4, hF⟩ := jbd_e hF
            refine jh_callS1 (v := .int r_4) (as := [.ref (ja E 1 0), .int a1, .int a3, .int a4]) (st := []) (JF_X1_firstFault hB hc_4) cw_X5_100 (iv_X1_firstFault) ⟨rfl, rfl, by decide, by decide⟩ rfl rfl (Nat.le_of_ble_eq_true rfl) dX5_land_87 rfl ?_
            refine jr_istore (L' := [(6, .int r_4), (5, .int r_3), (0, .ref (ja E 0 0)), (1, .int a1), (2, .int a2), (3, .int a3), (4, .int a4)]) dX5_land_90 (by decide) rfl rfl ?_
            refine jr_iload 0 dX5_land_92 rfl rfl ?_
            refine jr_bipush (v := (-9)) dX5_land_94 (by decide) rfl ?_
            refine jr_icmp_eq 105 dX5_land_96 (by decide) rfl (fun c1 => ?_) (fun c1 => ?_)
            · have hF := jif_p hF c1
              refine jr_aload_n 2 dX5_land_105 rfl rfl rfl ?_
              refine gf_X5_21 rfl rfl (hB 0 (by decide)) dX5_land_106 rfl ?_
              refine jr_aload_n 2 dX5_land_109 rfl rfl rfl ?_
              refine gf_X5_15 rfl rfl (hB 0 (by decide)) dX5_land_110 rfl ?_
              refine jr_iload_n 3 dX5_land_113 rfl rfl rfl ?_
              refine jr_iload_n 5 dX5_land_114 rfl rfl rfl ?_
              refine jr_iload 6 dX5_land_115 rfl rfl ?_
              obtain ⟨r_5, M_6, hc_5, hF⟩ := jbd_e hF
              refine jh_callV0 (o := 2) (as := [.ref (ja E 1 0), .int a1, .int a3, .int a4]) (st := []) (JF_X1_settle hB hc_5) cw_X5_104 (iv_X1_settle) ⟨rfl, rfl, by decide, by decide⟩ rfl (hB 2 (by decide)) rfl rfl (Nat.le_of_ble_eq_true rfl) dX5_land_117 rfl ?_
              refine jr_aload_n 2 dX5_land_120 rfl rfl rfl ?_
              refine gf_X5_28 rfl rfl (hB 0 (by decide)) dX5_land_121 rfl ?_
              obtain ⟨r_6, M_7, hc_6, hF⟩ := jbd_e hF
              refine jh_callV0 (o := 3) (as := []) (st := []) (JF_X2_clear hB (Or.inl rfl) hc_6) cw_X5_108 (iv_X2_clear) ⟨rfl, rfl, by decide, by decide⟩ rfl (hB 3 (by decide)) rfl rfl (Nat.le_of_ble_eq_true rfl) dX5_land_124 rfl ?_
              refine jr_aload_n 2 dX5_land_127 rfl rfl rfl ?_
              refine gf_X5_35 rfl rfl (hB 0 (by decide)) dX5_land_128 rfl ?_
              refine jr_iconst (v := 0) dX5_land_131 (by decide) rfl ?_
              refine pf_X5_111 rfl rfl (hB 4 (by decide)) dX5_land_132 ⟨rfl, rfl⟩ rfl (fun M_8 eM_8 => ?_)
              have hF := jlet_e hF M_8 eM_8
              refine jr_aload_n 2 dX5_land_135 rfl rfl rfl ?_
              obtain ⟨r_7, M_9, hc_7, hF⟩ := jbd_e hF
              refine jh_callV0 (o := 0) (as := []) (st := []) (JF_X5_unsettle hB hc_7) cw_X5_114 (iv_X5_unsettle) ⟨rfl, rfl, by decide, by decide⟩ rfl (hB 0 (by decide)) rfl rfl (Nat.le_of_ble_eq_true rfl) dX5_land_136 rfl ?_
              refine jr_aload_n 2 dX5_land_139 rfl rfl rfl ?_
              refine gf_X5_21 rfl rfl (hB 0 (by decide)) dX5_land_140 rfl ?_
              refine gf_X5_117 rfl rfl (hB 2 (by decide)) dX5_land_143 rfl ?_
              exact jh_iret rfl dX5_land_146 hF
            · have hF := jif_n hF c1
              refine jr_bipush (v := (-100)) dX5_land_99 (by decide) rfl ?_
              refine jr_iload 0 dX5_land_101 rfl rfl ?_
              refine jr_isub dX5_land_103 rfl ?_
              exact jh_iret rfl dX5_land_104 hF
          · have hF := jif_n hF c1
            refine jr_aload_n 1 dX5_land_72 rfl rfl rfl ?_
            refine jr_iload 0 dX5_land_73 rfl rfl ?_
            obtain ⟨r_8, M_10, hc_8, hF⟩ := jbd_e hF
            refine jh_callV1 (v := .int r_8) (o := 0) (as := [.int r_3]) (st := []) (JF_X5_faulty hB hc_8) cw_X5_96 (iv_X5_faulty) ⟨rfl, rfl, by decide, by decide⟩ rfl (hB 0 (by decide)) rfl rfl (Nat.le_of_ble_eq_true rfl) dX5_land_75 rfl ?_
            exact jh_iret rfl dX5_land_78 hF
        · have hF := jif_p hF c1
          refine jr_aload_n 1 dX5_land_50 rfl rfl rfl ?_
          refine gf_X5_15 rfl rfl (hB 0 (by decide)) dX5_land_51 rfl ?_
          refine jr_iload_n 2 dX5_land_54 rfl rfl rfl ?_
          refine jr_iload_n 4 dX5_land_55 rfl rfl rfl ?_
          refine jr_iload 5 dX5_land_56 rfl rfl ?_
          obtain ⟨r_9, M_11, hc_9, hF⟩ := jbd_e hF
          refine jh_callV1 (v := .int r_9) (o := 1) (as := [.int a1, .int a3, .int a4]) (st := []) (JF_X4_spans hB hc_9) cw_X5_92 (iv_X4_spans) ⟨rfl, rfl, by decide, by decide⟩ rfl (hB 1 (by decide)) rfl rfl (Nat.le_of_ble_eq_true rfl) dX5_land_58 rfl ?_
          refine jr_if_ne 67 dX5_land_61 (by decide) rfl (fun c1 => ?_) (fun c1 => ?_)
          · have hF := jif_n hF c1
            refine jr_iload 0 dX5_land_67 rfl rfl ?_
            refine jr_if_eq 79 dX5_land_69 (by decide) rfl (fun c1 => ?_) (fun c1 => ?_)
            · have hF := jif_p hF c1
              refine jr_aload_n 1 dX5_land_79 rfl rfl rfl ?_
              refine gf_X5_15 rfl rfl (hB 0 (by decide)) dX5_land_80 rfl ?_
              refine jr_iload_n 2 dX5_land_83 rfl rfl rfl ?_
              refine jr_iload_n 4 dX5_land_84 rfl rfl rfl ?_
              refine jr_iload 5 dX5_land_85 rfl rfl ?_
              obtain ⟨r_10, M_12, hc_10, hF⟩ := jbd_e hF
              refine jh_callS1 (v := .int r_10) (as := [.ref (ja E 1 0), .int a1, .int a3, .int a4]) (st := []) (JF_X1_firstFault hB hc_10) cw_X5_100 (iv_X1_firstFault) ⟨rfl, rfl, by decide, by decide⟩ rfl rfl (Nat.le_of_ble_eq_true rfl) dX5_land_87 rfl ?_
              refine jr_istore (L' := [(6, .int r_10), (5, .int r_3), (0, .ref (ja E 0 0)), (1, .int a1), (2, .int a2), (3, .int a3), (4, .int a4)]) dX5_land_90 (by decide) rfl rfl ?_
              refine jr_iload 0 dX5_land_92 rfl rfl ?_
              refine jr_bipush (v := (-9)) dX5_land_94 (by decide) rfl ?_
              refine jr_icmp_eq 105 dX5_land_96 (by decide) rfl (fun c1 => ?_) (fun c1 => ?_)
              · have hF := jif_p hF c1
                refine jr_aload_n 2 dX5_land_105 rfl rfl rfl ?_
                refine gf_X5_21 rfl rfl (hB 0 (by decide)) dX5_land_106 rfl ?_
                refine jr_aload_n 2 dX5_land_109 rfl rfl rfl ?_
                refine gf_X5_15 rfl rfl (hB 0 (by decide)) dX5_land_110 rfl ?_
                refine jr_iload_n 3 dX5_land_113 rfl rfl rfl ?_
                refine jr_iload_n 5 dX5_land_114 rfl rfl rfl ?_
                refine jr_iload 6 dX5_land_115 rfl rfl ?_
                obtain ⟨r_11, M_13, hc_11, hF⟩ := jbd_e hF
                refine jh_callV0 (o := 2) (as := [.ref (ja E 1 0), .int a1, .int a3, .int a4]) (st := []) (JF_X1_settle hB hc_11) cw_X5_104 (iv_X1_settle) ⟨rfl, rfl, by decide, by decide⟩ rfl (hB 2 (by decide)) rfl rfl (Nat.le_of_ble_eq_true rfl) dX5_land_117 rfl ?_
                refine jr_aload_n 2 dX5_land_120 rfl rfl rfl ?_
                refine gf_X5_28 rfl rfl (hB 0 (by decide)) dX5_land_121 rfl ?_
                obtain ⟨r_12, M_14, hc_12, hF⟩ := jbd_e hF
                refine jh_callV0 (o := 3) (as := []) (st := []) (JF_X2_clear hB (Or.inl rfl) hc_12) cw_X5_108 (iv_X2_clear) ⟨rfl, rfl, by decide, by decide⟩ rfl (hB 3 (by decide)) rfl rfl (Nat.le_of_ble_eq_true rfl) dX5_land_124 rfl ?_
                refine jr_aload_n 2 dX5_land_127 rfl rfl rfl ?_
                refine gf_X5_35 rfl rfl (hB 0 (by decide)) dX5_land_128 rfl ?_
                refine jr_iconst (v := 0) dX5_land_131 (by decide) rfl ?_
                refine pf_X5_111 rfl rfl (hB 4 (by decide)) dX5_land_132 ⟨rfl, rfl⟩ rfl (fun M_15 eM_15 => ?_)
                have hF := jlet_e hF M_15 eM_15
                refine jr_aload_n 2 dX5_land_135 rfl rfl rfl ?_
                obtain ⟨r_13, M_16, hc_13, hF⟩ := jbd_e hF
                refine jh_callV0 (o := 0) (as := []) (st := []) (JF_X5_unsettle hB hc_13) cw_X5_114 (iv_X5_unsettle) ⟨rfl, rfl, by decide, by decide⟩ rfl (hB 0 (by decide)) rfl rfl (Nat.le_of_ble_eq_true rfl) dX5_land_136 rfl ?_
                refine jr_aload_n 2 dX5_land_139 rfl rfl rfl ?_
                refine gf_X5_21 rfl rfl (hB 0 (by decide)) dX5_land_140 rfl ?_
                refine gf_X5_117 rfl rfl (hB 2 (by decide)) dX5_land_143 rfl ?_
                exact jh_iret rfl dX5_land_146 hF
              · have hF := jif_n hF c1
                refine jr_bipush (v := (-100)) dX5_land_99 (by decide) rfl ?_
                refine jr_iload 0 dX5_land_101 rfl rfl ?_
                refine jr_isub dX5_land_103 rfl ?_
                exact jh_iret rfl dX5_land_104 hF
            · have hF := jif_n hF c1
              refine jr_aload_n 1 dX5_land_72 rfl rfl rfl ?_
              refine jr_iload 0 dX5_land_73 rfl rfl ?_
              obtain ⟨r_14, M_17, hc_14, hF⟩ := jbd_e hF
              refine jh_callV1 (v := .int r_14) (o := 0) (as := [.int r_3]) (st := []) (JF_X5_faulty hB hc_14) cw_X5_96 (iv_X5_faulty) ⟨rfl, rfl, by decide, by decide⟩ rfl (hB 0 (by decide)) rfl rfl (Nat.le_of_ble_eq_true rfl) dX5_land_75 rfl ?_
              exact jh_iret rfl dX5_land_78 hF
          · have hF := jif_p hF c1
            refine jr_iconst (v := 3) dX5_land_64 (by decide) rfl ?_
            refine jr_istore (L' := [(5, .int 3), (0, .ref (ja E 0 0)), (1, .int a1), (2, .int a2), (3, .int a3), (4, .int a4)]) dX5_land_65 (by decide) rfl rfl ?_
            refine jr_iload 0 dX5_land_67 rfl rfl ?_
            refine jr_if_eq 79 dX5_land_69 (by decide) rfl (fun c1 => absurd c1 (by decide)) (fun c1 => ?_)
            refine jr_aload_n 1 dX5_land_72 rfl rfl rfl ?_
            refine jr_iload 0 dX5_land_73 rfl rfl ?_
            obtain ⟨r_15, M_18, hc_15, hF⟩ := jbd_e hF
            refine jh_callV1 (v := .int r_15) (o := 0) (as := [.int 3]) (st := []) (JF_X5_faulty hB hc_15) cw_X5_96 (iv_X5_faulty) ⟨rfl, rfl, by decide, by decide⟩ rfl (hB 0 (by decide)) rfl rfl (Nat.le_of_ble_eq_true rfl) dX5_land_75 rfl ?_
            exact jh_iret rfl dX5_land_78 hF
      · have hF := jif_p hF c1
        refine jr_iload 5 dX5_land_37 rfl rfl ?_
        refine jr_if_ge 45 dX5_land_39 (by decide) rfl (fun c1 => ?_) (fun c1 => ?_)
        · have hF := jif_p hF c1
          refine jr_iload 0 dX5_land_45 rfl rfl ?_
          refine jr_if_ne 67 dX5_land_47 (by decide) rfl (fun c1 => ?_) (fun c1 => ?_)
          · have hF := jif_n hF c1
            refine jr_iload 0 dX5_land_67 rfl rfl ?_
            refine jr_if_eq 79 dX5_land_69 (by decide) rfl (fun c1 => ?_) (fun c1 => ?_)
            · have hF := jif_p hF c1
              refine jr_aload_n 1 dX5_land_79 rfl rfl rfl ?_
              refine gf_X5_15 rfl rfl (hB 0 (by decide)) dX5_land_80 rfl ?_
              refine jr_iload_n 2 dX5_land_83 rfl rfl rfl ?_
              refine jr_iload_n 4 dX5_land_84 rfl rfl rfl ?_
              refine jr_iload 5 dX5_land_85 rfl rfl ?_
              obtain ⟨r_16, M_19, hc_16, hF⟩ := jbd_e hF
              refine jh_callS1 (v := .int r_16) (as := [.ref (ja E 1 0), .int a1, .int a3, .int a4]) (st := []) (JF_X1_firstFault hB hc_16) cw_X5_100 (iv_X1_firstFault) ⟨rfl, rfl, by decide, by decide⟩ rfl rfl (Nat.le_of_ble_eq_true rfl) dX5_land_87 rfl ?_
              refine jr_istore (L' := [(6, .int r_16), (5, .int r_3), (0, .ref (ja E 0 0)), (1, .int a1), (2, .int a2), (3, .int a3), (4, .int a4)]) dX5_land_90 (by decide) rfl rfl ?_
              refine jr_iload 0 dX5_land_92 rfl rfl ?_
              refine jr_bipush (v := (-9)) dX5_land_94 (by decide) rfl ?_
              refine jr_icmp_eq 105 dX5_land_96 (by decide) rfl (fun c1 => ?_) (fun c1 => ?_)
              · have hF := jif_p hF c1
                refine jr_aload_n 2 dX5_land_105 rfl rfl rfl ?_
                refine gf_X5_21 rfl rfl (hB 0 (by decide)) dX5_land_106 rfl ?_
                refine jr_aload_n 2 dX5_land_109 rfl rfl rfl ?_
                refine gf_X5_15 rfl rfl (hB 0 (by decide)) dX5_land_110 rfl ?_
                refine jr_iload_n 3 dX5_land_113 rfl rfl rfl ?_
                refine jr_iload_n 5 dX5_land_114 rfl rfl rfl ?_
                refine jr_iload 6 dX5_land_115 rfl rfl ?_
                obtain ⟨r_17, M_20, hc_17, hF⟩ := jbd_e hF
                refine jh_callV0 (o := 2) (as := [.ref (ja E 1 0), .int a1, .int a3, .int a4]) (st := []) (JF_X1_settle hB hc_17) cw_X5_104 (iv_X1_settle) ⟨rfl, rfl, by decide, by decide⟩ rfl (hB 2 (by decide)) rfl rfl (Nat.le_of_ble_eq_true rfl) dX5_land_117 rfl ?_
                refine jr_aload_n 2 dX5_land_120 rfl rfl rfl ?_
                refine gf_X5_28 rfl rfl (hB 0 (by decide)) dX5_land_121 rfl ?_
                obtain ⟨r_18, M_21, hc_18, hF⟩ := jbd_e hF
                refine jh_callV0 (o := 3) (as := []) (st := []) (JF_X2_clear hB (Or.inl rfl) hc_18) cw_X5_108 (iv_X2_clear) ⟨rfl, rfl, by decide, by decide⟩ rfl (hB 3 (by decide)) rfl rfl (Nat.le_of_ble_eq_true rfl) dX5_land_124 rfl ?_
                refine jr_aload_n 2 dX5_land_127 rfl rfl rfl ?_
                refine gf_X5_35 rfl rfl (hB 0 (by decide)) dX5_land_128 rfl ?_
                refine jr_iconst (v := 0) dX5_land_131 (by decide) rfl ?_
                refine pf_X5_111 rfl rfl (hB 4 (by decide)) dX5_land_132 ⟨rfl, rfl⟩ rfl (fun M_22 eM_22 => ?_)
                have hF := jlet_e hF M_22 eM_22
                refine jr_aload_n 2 dX5_land_135 rfl rfl rfl ?_
                obtain ⟨r_19, M_23, hc_19, hF⟩ := jbd_e hF
                refine jh_callV0 (o := 0) (as := []) (st := []) (JF_X5_unsettle hB hc_19) cw_X5_114 (iv_X5_unsettle) ⟨rfl, rfl, by decide, by decide⟩ rfl (hB 0 (by decide)) rfl rfl (Nat.le_of_ble_eq_true rfl) dX5_land_136 rfl ?_
                refine jr_aload_n 2 dX5_land_139 rfl rfl rfl ?_
                refine gf_X5_21 rfl rfl (hB 0 (by decide)) dX5_land_140 rfl ?_
                refine gf_X5_117 rfl rfl (hB 2 (by decide)) dX5_land_143 rfl ?_
                exact jh_iret rfl dX5_land_146 hF
              · have hF := jif_n hF c1
                refine jr_bipush (v := (-100)) dX5_land_99 (by decide) rfl ?_
                refine jr_iload 0 dX5_land_101 rfl rfl ?_
                refine jr_isub dX5_land_103 rfl ?_
                exact jh_iret rfl dX5_land_104 hF
            · have hF := jif_n hF c1
              refine jr_aload_n 1 dX5_land_72 rfl rfl rfl ?_
              refine jr_iload 0 dX5_land_73 rfl rfl ?_
              obtain ⟨r_20, M_24, hc_20, hF⟩ := jbd_e hF
              refine jh_callV1 (v := .int r_20) (o := 0) (as := [.int r_3]) (st := []) (JF_X5_faulty hB hc_20) cw_X5_96 (iv_X5_faulty) ⟨rfl, rfl, by decide, by decide⟩ rfl (hB 0 (by decide)) rfl rfl (Nat.le_of_ble_eq_true rfl) dX5_land_75 rfl ?_
              exact jh_iret rfl dX5_land_78 hF
          · have hF := jif_p hF c1
            refine jr_aload_n 1 dX5_land_50 rfl rfl rfl ?_
            refine gf_X5_15 rfl rfl (hB 0 (by decide)) dX5_land_51 rfl ?_
            refine jr_iload_n 2 dX5_land_54 rfl rfl rfl ?_
            refine jr_iload_n 4 dX5_land_55 rfl rfl rfl ?_
            refine jr_iload 5 dX5_land_56 rfl rfl ?_
            obtain ⟨r_21, M_25, hc_21, hF⟩ := jbd_e hF
            refine jh_callV1 (v := .int r_21) (o := 1) (as := [.int a1, .int a3, .int a4]) (st := []) (JF_X4_spans hB hc_21) cw_X5_92 (iv_X4_spans) ⟨rfl, rfl, by decide, by decide⟩ rfl (hB 1 (by decide)) rfl rfl (Nat.le_of_ble_eq_true rfl) dX5_land_58 rfl ?_
            refine jr_if_ne 67 dX5_land_61 (by decide) rfl (fun c1 => ?_) (fun c1 => ?_)
            · have hF := jif_n hF c1
              refine jr_iload 0 dX5_land_67 rfl rfl ?_
              refine jr_if_eq 79 dX5_land_69 (by decide) rfl (fun c1 => ?_) (fun c1 => ?_)
              · have hF := jif_p hF c1
                refine jr_aload_n 1 dX5_land_79 rfl rfl rfl ?_
                refine gf_X5_15 rfl rfl (hB 0 (by decide)) dX5_land_80 rfl ?_
                refine jr_iload_n 2 dX5_land_83 rfl rfl rfl ?_
                refine jr_iload_n 4 dX5_land_84 rfl rfl rfl ?_
                refine jr_iload 5 dX5_land_85 rfl rfl ?_
                obtain ⟨r_22, M_26, hc_22, hF⟩ := jbd_e hF
                refine jh_callS1 (v := .int r_22) (as := [.ref (ja E 1 0), .int a1, .int a3, .int a4]) (st := []) (JF_X1_firstFault hB hc_22) cw_X5_100 (iv_X1_firstFault) ⟨rfl, rfl, by decide, by decide⟩ rfl rfl (Nat.le_of_ble_eq_true rfl) dX5_land_87 rfl ?_
                refine jr_istore (L' := [(6, .int r_22), (5, .int r_3), (0, .ref (ja E 0 0)), (1, .int a1), (2, .int a2), (3, .int a3), (4, .int a4)]) dX5_land_90 (by decide) rfl rfl ?_
                refine jr_iload 0 dX5_land_92 rfl rfl ?_
                refine jr_bipush (v := (-9)) dX5_land_94 (by decide) rfl ?_
                refine jr_icmp_eq 105 dX5_land_96 (by decide) rfl (fun c1 => ?_) (fun c1 => ?_)
                · have hF := jif_p hF c1
                  refine jr_aload_n 2 dX5_land_105 rfl rfl rfl ?_
                  refine gf_X5_21 rfl rfl (hB 0 (by decide)) dX5_land_106 rfl ?_
                  refine jr_aload_n 2 dX5_land_109 rfl rfl rfl ?_
                  refine gf_X5_15 rfl rfl (hB 0 (by decide)) dX5_land_110 rfl ?_
                  refine jr_iload_n 3 dX5_land_113 rfl rfl rfl ?_
                  refine jr_iload_n 5 dX5_land_114 rfl rfl rfl ?_
                  refine jr_iload 6 dX5_land_115 rfl rfl ?_
                  obtain ⟨r_23, M_27, hc_23, hF⟩ := jbd_e hF
                  refine jh_callV0 (o := 2) (as := [.ref (ja E 1 0), .int a1, .int a3, .int a4]) (st := []) (JF_X1_settle hB hc_23) cw_X5_104 (iv_X1_settle) ⟨rfl, rfl, by decide, by decide⟩ rfl (hB 2 (by decide)) rfl rfl (Nat.le_of_ble_eq_true rfl) dX5_land_117 rfl ?_
                  refine jr_aload_n 2 dX5_land_120 rfl rfl rfl ?_
                  refine gf_X5_28 rfl rfl (hB 0 (by decide)) dX5_land_121 rfl ?_
                  obtain ⟨r_24, M_28, hc_24, hF⟩ := jbd_e hF
                  refine jh_callV0 (o := 3) (as := []) (st := []) (JF_X2_clear hB (Or.inl rfl) hc_24) cw_X5_108 (iv_X2_clear) ⟨rfl, rfl, by decide, by decide⟩ rfl (hB 3 (by decide)) rfl rfl (Nat.le_of_ble_eq_true rfl) dX5_land_124 rfl ?_
                  refine jr_aload_n 2 dX5_land_127 rfl rfl rfl ?_
                  refine gf_X5_35 rfl rfl (hB 0 (by decide)) dX5_land_128 rfl ?_
                  refine jr_iconst (v := 0) dX5_land_131 (by decide) rfl ?_
                  refine pf_X5_111 rfl rfl (hB 4 (by decide)) dX5_land_132 ⟨rfl, rfl⟩ rfl (fun M_29 eM_29 => ?_)
                  have hF := jlet_e hF M_29 eM_29
                  refine jr_aload_n 2 dX5_land_135 rfl rfl rfl ?_
                  obtain ⟨r_25, M_30, hc_25, hF⟩ := jbd_e hF
                  refine jh_callV0 (o := 0) (as := []) (st := []) (JF_X5_unsettle hB hc_25) cw_X5_114 (iv_X5_unsettle) ⟨rfl, rfl, by decide, by decide⟩ rfl (hB 0 (by decide)) rfl rfl (Nat.le_of_ble_eq_true rfl) dX5_land_136 rfl ?_
                  refine jr_aload_n 2 dX5_land_139 rfl rfl rfl ?_
                  refine gf_X5_21 rfl rfl (hB 0 (by decide)) dX5_land_140 rfl ?_
                  refine gf_X5_117 rfl rfl (hB 2 (by decide)) dX5_land_143 rfl ?_
                  exact jh_iret rfl dX5_land_146 hF
                · have hF := jif_n hF c1
                  refine jr_bipush (v := (-100)) dX5_land_99 (by decide) rfl ?_
                  refine jr_iload 0 dX5_land_101 rfl rfl ?_
                  refine jr_isub dX5_land_103 rfl ?_
                  exact jh_iret rfl dX5_land_104 hF
              · have hF := jif_n hF c1
                refine jr_aload_n 1 dX5_land_72 rfl rfl rfl ?_
                refine jr_iload 0 dX5_land_73 rfl rfl ?_
                obtain ⟨r_26, M_31, hc_26, hF⟩ := jbd_e hF
                refine jh_callV1 (v := .int r_26) (o := 0) (as := [.int r_3]) (st := []) (JF_X5_faulty hB hc_26) cw_X5_96 (iv_X5_faulty) ⟨rfl, rfl, by decide, by decide⟩ rfl (hB 0 (by decide)) rfl rfl (Nat.le_of_ble_eq_true rfl) dX5_land_75 rfl ?_
                exact jh_iret rfl dX5_land_78 hF
            · have hF := jif_p hF c1
              refine jr_iconst (v := 3) dX5_land_64 (by decide) rfl ?_
              refine jr_istore (L' := [(5, .int 3), (0, .ref (ja E 0 0)), (1, .int a1), (2, .int a2), (3, .int a3), (4, .int a4)]) dX5_land_65 (by decide) rfl rfl ?_
              refine jr_iload 0 dX5_land_67 rfl rfl ?_
              refine jr_if_eq 79 dX5_land_69 (by decide) rfl (fun c1 => absurd c1 (by decide)) (fun c1 => ?_)
              refine jr_aload_n 1 dX5_land_72 rfl rfl rfl ?_
              refine jr_iload 0 dX5_land_73 rfl rfl ?_
              obtain ⟨r_27, M_32, hc_27, hF⟩ := jbd_e hF
              refine jh_callV1 (v := .int r_27) (o := 0) (as := [.int 3]) (st := []) (JF_X5_faulty hB hc_27) cw_X5_96 (iv_X5_faulty) ⟨rfl, rfl, by decide, by decide⟩ rfl (hB 0 (by decide)) rfl rfl (Nat.le_of_ble_eq_true rfl) dX5_land_75 rfl ?_
              exact jh_iret rfl dX5_land_78 hF
        · have hF := jif_n hF c1
          refine jr_iconst (v := 4) dX5_land_42 (by decide) rfl ?_
          refine jr_istore (L' := [(5, .int 4), (0, .ref (ja E 0 0)), (1, .int a1), (2, .int a2), (3, .int a3), (4, .int a4)]) dX5_land_43 (by decide) rfl rfl ?_
          refine jr_iload 0 dX5_land_45 rfl rfl ?_
          refine jr_if_ne 67 dX5_land_47 (by decide) rfl (fun c1 => ?_) (fun c1 => absurd c1 (by decide))
          refine jr_iload 0 dX5_land_67 rfl rfl ?_
          refine jr_if_eq 79 dX5_land_69 (by decide) rfl (fun c1 => absurd c1 (by decide)) (fun c1 => ?_)
          refine jr_aload_n 1 dX5_land_72 rfl rfl rfl ?_
          refine jr_iload 0 dX5_land_73 rfl rfl ?_
          obtain ⟨r_28, M_33, hc_28, hF⟩ := jbd_e hF
          refine jh_callV1 (v := .int r_28) (o := 0) (as := [.int 4]) (st := []) (JF_X5_faulty hB hc_28) cw_X5_96 (iv_X5_faulty) ⟨rfl, rfl, by decide, by decide⟩ rfl (hB 0 (by decide)) rfl rfl (Nat.le_of_ble_eq_true rfl) dX5_land_75 rfl ?_
          exact jh_iret rfl dX5_land_78 hF
    · have hF := jif_p hF c1
      refine jr_bipush (v := (-2)) dX5_land_21 (by decide) rfl ?_
      exact jh_iret rfl dX5_land_23 hF
  · have hF := jif_p hF c1
    refine jr_iconst (v := (-1)) dX5_land_12 (by decide) rfl ?_
    exact jh_iret rfl dX5_land_13 hF
set_option maxHeartbeats 4000000 in
set_option maxRecDepth 100000 in
theorem JF_X5_isPerson {E : jx_E} (hB : ∀ o, o < 8 → jB E o) {a1 : Int32} {M : jx_M} {r : Int32} {M' : jx_M} (hF : F_X5_isPerson a1 M = some (r, M')) : jC E yX5_isPerson cX5_isPerson 2 (some FieldType.boolean) rm_X5_isPerson [.ref (ja E 0 0), .int a1] M (fun x M'' => x = some (.int r) ∧ M'' = M') := by
  refine jC.ofJ (L := [(0, .ref (ja E 0 0)), (1, .int a1)]) (by decide +kernel) (Nat.le_of_ble_eq_true rfl) rfl ?_
  unfold F_X5_isPerson at hF
  refine jr_iload_n 1 dX5_isPerson_0 rfl rfl rfl ?_
  refine jr_if_lt 19 dX5_isPerson_1 (by decide) rfl (fun c1 => ?_) (fun c1 => ?_)
  · have hF := jif_p hF c1
    refine jr_iconst (v := 0) dX5_isPerson_19 (by decide) rfl ?_
    exact jh_zret rfl (Or.inl rfl) dX5_isPerson_20 hF
  · have hF := jif_n hF c1
    refine jr_iload_n 1 dX5_isPerson_4 rfl rfl rfl ?_
    refine jr_aload_n 0 dX5_isPerson_5 rfl rfl rfl ?_
    refine gf_X5_21 rfl rfl (hB 0 (by decide)) dX5_isPerson_6 rfl ?_
    refine gf_X5_117 rfl rfl (hB 2 (by decide)) dX5_isPerson_9 rfl ?_
    refine jr_icmp_ge 19 dX5_isPerson_12 (by decide) rfl (fun c1 => ?_) (fun c1 => ?_)
    · have hF := jif_p hF c1
      refine jr_iconst (v := 0) dX5_isPerson_19 (by decide) rfl ?_
      exact jh_zret rfl (Or.inl rfl) dX5_isPerson_20 hF
    · have hF := jif_n hF c1
      refine jr_iconst (v := 1) dX5_isPerson_15 (by decide) rfl ?_
      refine jr_goto 20 dX5_isPerson_16 (by decide) ?_
      exact jh_zret rfl (Or.inr rfl) dX5_isPerson_20 hF
set_option maxHeartbeats 4000000 in
set_option maxRecDepth 100000 in
theorem JF_X5_ofPerson {E : jx_E} (hB : ∀ o, o < 8 → jB E o) {a1 : Int32} {a2 : Int32} {M : jx_M} {r : Int32} {M' : jx_M} (hF : F_X5_ofPerson a1 a2 M = some (r, M')) : jC E yX5_ofPerson cX5_ofPerson 3 (some FieldType.int) rm_X5_ofPerson [.ref (ja E 0 0), .int a1, .int a2] M (fun x M'' => x = some (.int r) ∧ M'' = M') := by
  refine jC.ofJ (L := [(0, .ref (ja E 0 0)), (1, .int a1), (2, .int a2)]) (by decide +kernel) (Nat.le_of_ble_eq_true rfl) rfl ?_
  unfold F_X5_ofPerson at hF
  refine jr_aload_n 0 dX5_ofPerson_0 rfl rfl rfl ?_
  refine jr_iload_n 1 dX5_ofPerson_1 rfl rfl rfl ?_
  obtain ⟨r_1, M_1, hc_1, hF⟩ := jbd_e hF
  refine jh_callV1 (v := .int r_1) (o := 0) (as := [.int a1]) (st := []) (JF_X5_isPerson hB hc_1) cw_X5_120 (iv_X5_isPerson) ⟨rfl, rfl, by decide, by decide⟩ rfl (hB 0 (by decide)) rfl rfl (Nat.le_of_ble_eq_true rfl) dX5_ofPerson_2 rfl ?_
  refine jr_if_ne 10 dX5_ofPerson_5 (by decide) rfl (fun c1 => ?_) (fun c1 => ?_)
  · have hF := jif_n hF c1
    refine jr_iload_n 2 dX5_ofPerson_10 rfl rfl rfl ?_
    refine jr_if_lt 20 dX5_ofPerson_11 (by decide) rfl (fun c1 => ?_) (fun c1 => ?_)
    · have hF := jif_p hF c1
      refine jr_bipush (v := (-2)) dX5_ofPerson_20 (by decide) rfl ?_
      exact jh_iret rfl dX5_ofPerson_22 hF
    · have hF := jif_n hF c1
      refine jr_iload_n 2 dX5_ofPerson_14 rfl rfl rfl ?_
      refine jr_bipush (v := 7) dX5_ofPerson_15 (by decide) rfl ?_
      refine jr_icmp_lt 23 dX5_ofPerson_17 (by decide) rfl (fun c1 => ?_) (fun c1 => ?_)
      · have hF := jif_p hF c1
        refine jr_iload_n 2 dX5_ofPerson_23 rfl rfl rfl ?_
        by_cases s0 : a2 = 0
        · have hF := jif_p hF s0
          refine jr_tabIn (v := 0) (off := 40) 64 dX5_ofPerson_24 s0 (by decide) (by decide) ?_
          refine jr_aload_n 0 dX5_ofPerson_64 rfl rfl rfl ?_
          refine gf_X5_21 rfl rfl (hB 0 (by decide)) dX5_ofPerson_65 rfl ?_
          refine gf_X5_123 rfl rfl (hB 2 (by decide)) dX5_ofPerson_68 rfl ?_
          refine jr_iload_n 1 dX5_ofPerson_71 rfl rfl rfl ?_
          obtain ⟨hb_1, hF⟩ := jck_e hF
          refine jh_iald (ci := 1) (k := 2) rfl (hB 2 (by decide)) (by decide) rfl rfl hb_1 dX5_ofPerson_72 rfl ?_
          exact jh_iret rfl dX5_ofPerson_73 hF
        · have hF := jif_n hF s0
          by_cases s1 : a2 = 1
          · have hF := jif_p hF s1
            refine jr_tabIn (v := 1) (off := 50) 74 dX5_ofPerson_24 s1 (by decide) (by decide) ?_
            refine jr_aload_n 0 dX5_ofPerson_74 rfl rfl rfl ?_
            refine gf_X5_21 rfl rfl (hB 0 (by decide)) dX5_ofPerson_75 rfl ?_
            refine gf_X5_126 rfl rfl (hB 2 (by decide)) dX5_ofPerson_78 rfl ?_
            refine jr_iload_n 1 dX5_ofPerson_81 rfl rfl rfl ?_
            obtain ⟨hb_2, hF⟩ := jck_e hF
            refine jh_iald (ci := 1) (k := 3) rfl (hB 2 (by decide)) (by decide) rfl rfl hb_2 dX5_ofPerson_82 rfl ?_
            exact jh_iret rfl dX5_ofPerson_83 hF
          · have hF := jif_n hF s1
            by_cases s2 : a2 = 2
            · have hF := jif_p hF s2
              refine jr_tabIn (v := 2) (off := 60) 84 dX5_ofPerson_24 s2 (by decide) (by decide) ?_
              refine jr_aload_n 0 dX5_ofPerson_84 rfl rfl rfl ?_
              refine gf_X5_21 rfl rfl (hB 0 (by decide)) dX5_ofPerson_85 rfl ?_
              refine gf_X5_129 rfl rfl (hB 2 (by decide)) dX5_ofPerson_88 rfl ?_
              refine jr_iload_n 1 dX5_ofPerson_91 rfl rfl rfl ?_
              obtain ⟨hb_3, hF⟩ := jck_e hF
              refine jh_iald (ci := 1) (k := 4) rfl (hB 2 (by decide)) (by decide) rfl rfl hb_3 dX5_ofPerson_92 rfl ?_
              exact jh_iret rfl dX5_ofPerson_93 hF
            · have hF := jif_n hF s2
              by_cases s3 : a2 = 3
              · have hF := jif_p hF s3
                refine jr_tabIn (v := 3) (off := 70) 94 dX5_ofPerson_24 s3 (by decide) (by decide) ?_
                refine jr_aload_n 0 dX5_ofPerson_94 rfl rfl rfl ?_
                refine gf_X5_21 rfl rfl (hB 0 (by decide)) dX5_ofPerson_95 rfl ?_
                refine gf_X5_132 rfl rfl (hB 2 (by decide)) dX5_ofPerson_98 rfl ?_
                refine jr_iload_n 1 dX5_ofPerson_101 rfl rfl rfl ?_
                obtain ⟨hb_4, hF⟩ := jck_e hF
                refine jh_iald (ci := 1) (k := 5) rfl (hB 2 (by decide)) (by decide) rfl rfl hb_4 dX5_ofPerson_102 rfl ?_
                exact jh_iret rfl dX5_ofPerson_103 hF
              · have hF := jif_n hF s3
                by_cases s4 : a2 = 4
                · have hF := jif_p hF s4
                  refine jr_tabIn (v := 4) (off := 80) 104 dX5_ofPerson_24 s4 (by decide) (by decide) ?_
                  refine jr_aload_n 0 dX5_ofPerson_104 rfl rfl rfl ?_
                  refine gf_X5_21 rfl rfl (hB 0 (by decide)) dX5_ofPerson_105 rfl ?_
                  refine gf_X5_135 rfl rfl (hB 2 (by decide)) dX5_ofPerson_108 rfl ?_
                  refine jr_iload_n 1 dX5_ofPerson_111 rfl rfl rfl ?_
                  obtain ⟨hb_5, hF⟩ := jck_e hF
                  refine jh_iald (ci := 1) (k := 6) rfl (hB 2 (by decide)) (by decide) rfl rfl hb_5 dX5_ofPerson_112 rfl ?_
                  exact jh_iret rfl dX5_ofPerson_113 hF
                · have hF := jif_n hF s4
                  by_cases s5 : a2 = 5
                  · have hF := jif_p hF s5
                    refine jr_tabIn (v := 5) (off := 90) 114 dX5_ofPerson_24 s5 (by decide) (by decide) ?_
                    refine jr_aload_n 0 dX5_ofPerson_114 rfl rfl rfl ?_
                    refine gf_X5_21 rfl rfl (hB 0 (by decide)) dX5_ofPerson_115 rfl ?_
                    refine jr_iload_n 1 dX5_ofPerson_118 rfl rfl rfl ?_
                    obtain ⟨r_2, M_2, hc_2, hF⟩ := jbd_e hF
                    refine jh_callV1 (v := .int r_2) (o := 2) (as := [.int a1]) (st := []) (JF_X1_sleepOf hB hc_2) cw_X5_138 (iv_X1_sleepOf) ⟨rfl, rfl, by decide, by decide⟩ rfl (hB 2 (by decide)) rfl rfl (Nat.le_of_ble_eq_true rfl) dX5_ofPerson_119 rfl ?_
                    exact jh_iret rfl dX5_ofPerson_122 hF
                  · have hF := jif_n hF s5
                    refine jr_tabOut 5 123 dX5_ofPerson_24 (by decide) (fun j hj => ?_) (by decide) ?_
                    · rcases (show j = 0 ∨ j = 1 ∨ j = 2 ∨ j = 3 ∨ j = 4 ∨ j = 5 by omega) with rfl | rfl | rfl | rfl | rfl | rfl
                      · exact s0
                      · exact s1
                      · exact s2
                      · exact s3
                      · exact s4
                      · exact s5
                    refine jr_aload_n 0 dX5_ofPerson_123 rfl rfl rfl ?_
                    refine gf_X5_28 rfl rfl (hB 0 (by decide)) dX5_ofPerson_124 rfl ?_
                    refine gf_X5_141 rfl rfl (hB 3 (by decide)) dX5_ofPerson_127 rfl ?_
                    refine jr_iload_n 1 dX5_ofPerson_130 rfl rfl rfl ?_
                    refine jr_ishr dX5_ofPerson_131 rfl ?_
                    refine jr_iconst (v := 1) dX5_ofPerson_132 (by decide) rfl ?_
                    refine jr_iand dX5_ofPerson_133 rfl ?_
                    exact jh_iret rfl dX5_ofPerson_134 hF
      · have hF := jif_n hF c1
        refine jr_bipush (v := (-2)) dX5_ofPerson_20 (by decide) rfl ?_
        exact jh_iret rfl dX5_ofPerson_22 hF
  · have hF := jif_p hF c1
    refine jr_iconst (v := (-1)) dX5_ofPerson_8 (by decide) rfl ?_
    exact jh_iret rfl dX5_ofPerson_9 hF
set_option maxHeartbeats 4000000 in
set_option maxRecDepth 100000 in
theorem JF_X5_isLand {E : jx_E} (hB : ∀ o, o < 8 → jB E o) {M : jx_M} {r : Int32} {M' : jx_M} (hF : F_X5_isLand  M = some (r, M')) : jC E yX5_isLand cX5_isLand 1 (some FieldType.boolean) rm_X5_isLand [.ref (ja E 0 0)] M (fun x M'' => x = some (.int r) ∧ M'' = M') := by
  refine jC.ofJ (L := [(0, .ref (ja E 0 0))]) (by decide +kernel) (Nat.le_of_ble_eq_true rfl) rfl ?_
  unfold F_X5_isLand at hF
  refine jr_aload_n 0 dX5_isLand_0 rfl rfl rfl ?_
  refine gf_X5_21 rfl rfl (hB 0 (by decide)) dX5_isLand_1 rfl ?_
  refine gf_X5_221 rfl rfl (hB 2 (by decide)) dX5_isLand_4 rfl ?_
  refine jr_if_le 14 dX5_isLand_7 (by decide) rfl (fun c1 => ?_) (fun c1 => ?_)
  · have hF := jif_p hF c1
    refine jr_iconst (v := 0) dX5_isLand_14 (by decide) rfl ?_
    exact jh_zret rfl (Or.inl rfl) dX5_isLand_15 hF
  · have hF := jif_n hF c1
    refine jr_iconst (v := 1) dX5_isLand_10 (by decide) rfl ?_
    refine jr_goto 15 dX5_isLand_11 (by decide) ?_
    exact jh_zret rfl (Or.inr rfl) dX5_isLand_15 hF
set_option maxHeartbeats 4000000 in
set_option maxRecDepth 100000 in
theorem JF_X5_law {E : jx_E} (hB : ∀ o, o < 8 → jB E o) {a1 : Int32} {M : jx_M} {r : Int32} {M' : jx_M} (hF : F_X5_law a1 M = some (r, M')) : jC E yX5_law cX5_law 3 (some FieldType.int) rm_X5_law [.ref (ja E 0 0), .int a1] M (fun x M'' => x = some (.int r) ∧ M'' = M') := by
  refine jC.ofJ (L := [(0, .ref (ja E 0 0)), (1, .int a1)]) (by decide +kernel) (Nat.le_of_ble_eq_true rfl) rfl ?_
  unfold F_X5_law at hF
  refine jr_iload_n 1 dX5_law_0 rfl rfl rfl ?_
  refine jr_if_lt 9 dX5_law_1 (by decide) rfl (fun c1 => ?_) (fun c1 => ?_)
  · have hF := jif_p hF c1
    refine jr_bipush (v := (-2)) dX5_law_9 (by decide) rfl ?_
    exact jh_iret rfl dX5_law_11 hF
  · have hF := jif_n hF c1
    refine jr_iload_n 1 dX5_law_4 rfl rfl rfl ?_
    refine jr_iconst (v := 3) dX5_law_5 (by decide) rfl ?_
    refine jr_icmp_lt 12 dX5_law_6 (by decide) rfl (fun c1 => ?_) (fun c1 => ?_)
    · have hF := jif_p hF c1
      refine jr_aload_n 0 dX5_law_12 rfl rfl rfl ?_
      obtain ⟨r_1, M_1, hc_1, hF⟩ := jbd_e hF
      refine jh_callV1 (v := .int r_1) (o := 0) (as := []) (st := []) (JF_X5_isLand hB hc_1) cw_X5_144 (iv_X5_isLand) ⟨rfl, rfl, by decide, by decide⟩ rfl (hB 0 (by decide)) rfl rfl (Nat.le_of_ble_eq_true rfl) dX5_law_13 rfl ?_
      refine jr_if_ne 22 dX5_law_16 (by decide) rfl (fun c1 => ?_) (fun c1 => ?_)
      · have hF := jif_n hF c1
        refine jr_aload_n 0 dX5_law_22 rfl rfl rfl ?_
        refine gf_X5_28 rfl rfl (hB 0 (by decide)) dX5_law_23 rfl ?_
        refine gf_X5_148 rfl rfl (hB 3 (by decide)) dX5_law_26 rfl ?_
        refine jr_topi (fun x2_1 ex2_1 => ?_)
        have hF := jlet_e hF x2_1 ex2_1
        refine jr_istore_n (L' := [(2, .int x2_1), (0, .ref (ja E 0 0)), (1, .int a1)]) dX5_law_29 rfl (by decide) rfl rfl ?_
        refine jr_aload_n 1 dX5_law_30 rfl rfl rfl ?_
        refine gf_X5_28 rfl rfl (hB 0 (by decide)) dX5_law_31 rfl ?_
        refine jr_iload_n 2 dX5_law_34 rfl rfl rfl ?_
        refine pf_X5_148 rfl rfl (hB 3 (by decide)) dX5_law_35 ⟨rfl, rfl⟩ rfl (fun M_2 eM_2 => ?_)
        have hF := jlet_e hF M_2 eM_2
        refine jr_aload_n 1 dX5_law_38 rfl rfl rfl ?_
        obtain ⟨r_2, M_3, hc_2, hF⟩ := jbd_e hF
        refine jh_callV0 (o := 0) (as := []) (st := []) (JF_X5_unsettle hB hc_2) cw_X5_114 (iv_X5_unsettle) ⟨rfl, rfl, by decide, by decide⟩ rfl (hB 0 (by decide)) rfl rfl (Nat.le_of_ble_eq_true rfl) dX5_law_39 rfl ?_
        refine jr_iload_n 0 dX5_law_42 rfl rfl rfl ?_
        exact jh_iret rfl dX5_law_43 hF
      · have hF := jif_p hF c1
        refine jr_bipush (v := (-3)) dX5_law_19 (by decide) rfl ?_
        exact jh_iret rfl dX5_law_21 hF
    · have hF := jif_n hF c1
      refine jr_bipush (v := (-2)) dX5_law_9 (by decide) rfl ?_
      exact jh_iret rfl dX5_law_11 hF
set_option maxHeartbeats 4000000 in
set_option maxRecDepth 100000 in
theorem JF_X5_refuse {E : jx_E} (hB : ∀ o, o < 8 → jB E o) {a1 : Int32} {a2 : Int32} {M : jx_M} {r : Int32} {M' : jx_M} (hF : F_X5_refuse a1 a2 M = some (r, M')) : jC E yX5_refuse cX5_refuse 5 (some FieldType.int) rm_X5_refuse [.ref (ja E 0 0), .int a1, .int a2] M (fun x M'' => x = some (.int r) ∧ M'' = M') := by
  refine jC.ofJ (L := [(0, .ref (ja E 0 0)), (1, .int a1), (2, .int a2)]) (by decide +kernel) (Nat.le_of_ble_eq_true rfl) rfl ?_
  unfold F_X5_refuse at hF
  refine jr_aload_n 0 dX5_refuse_0 rfl rfl rfl ?_
  refine jr_iload_n 1 dX5_refuse_1 rfl rfl rfl ?_
  obtain ⟨r_1, M_1, hc_1, hF⟩ := jbd_e hF
  refine jh_callV1 (v := .int r_1) (o := 0) (as := [.int a1]) (st := []) (JF_X5_isPerson hB hc_1) cw_X5_120 (iv_X5_isPerson) ⟨rfl, rfl, by decide, by decide⟩ rfl (hB 0 (by decide)) rfl rfl (Nat.le_of_ble_eq_true rfl) dX5_refuse_2 rfl ?_
  refine jr_if_ne 10 dX5_refuse_5 (by decide) rfl (fun c1 => ?_) (fun c1 => ?_)
  · have hF := jif_n hF c1
    refine jr_iconst (v := 1) dX5_refuse_10 (by decide) rfl ?_
    refine jr_iload_n 1 dX5_refuse_11 rfl rfl rfl ?_
    refine jr_ishl dX5_refuse_12 rfl ?_
    refine jr_topi (fun x3_1 ex3_1 => ?_)
    have hF := jlet_e hF x3_1 ex3_1
    refine jr_istore_n (L' := [(3, .int x3_1), (0, .ref (ja E 0 0)), (1, .int a1), (2, .int a2)]) dX5_refuse_13 rfl (by decide) rfl rfl ?_
    refine jr_aload_n 1 dX5_refuse_14 rfl rfl rfl ?_
    refine gf_X5_28 rfl rfl (hB 0 (by decide)) dX5_refuse_15 rfl ?_
    refine gf_X5_141 rfl rfl (hB 3 (by decide)) dX5_refuse_18 rfl ?_
    refine jr_iload_n 0 dX5_refuse_21 rfl rfl rfl ?_
    refine jr_iand dX5_refuse_22 rfl ?_
    refine jr_if_eq 30 dX5_refuse_23 (by decide) rfl (fun c1 => ?_) (fun c1 => ?_)
    · have hF := jif_p hF c1
      refine jr_iconst (v := 0) dX5_refuse_30 (by decide) rfl ?_
      refine jr_istore (L' := [(4, .int 0), (3, .int x3_1), (0, .ref (ja E 0 0)), (1, .int a1), (2, .int a2)]) dX5_refuse_31 (by decide) rfl rfl ?_
      refine jr_iload 0 dX5_refuse_33 rfl rfl ?_
      refine jr_iload_n 4 dX5_refuse_35 rfl rfl rfl ?_
      refine jr_icmp_ne 41 dX5_refuse_36 (by decide) rfl (fun c1 => ?_) (fun c1 => ?_)
      · have hF := jif_n hF c1
        refine jr_aload_n 2 dX5_refuse_41 rfl rfl rfl ?_
        refine gf_X5_28 rfl rfl (hB 0 (by decide)) dX5_refuse_42 rfl ?_
        refine jr_dup dX5_refuse_45 rfl rfl ?_
        refine gf_X5_141 rfl rfl (hB 3 (by decide)) dX5_refuse_46 rfl ?_
        refine jr_iload_n 1 dX5_refuse_49 rfl rfl rfl ?_
        refine jr_ixor dX5_refuse_50 rfl ?_
        refine pf_X5_141 rfl rfl (hB 3 (by decide)) dX5_refuse_51 ⟨rfl, rfl⟩ rfl (fun M_2 eM_2 => ?_)
        have hF := jlet_e hF M_2 eM_2
        refine jr_aload_n 2 dX5_refuse_54 rfl rfl rfl ?_
        obtain ⟨r_2, M_3, hc_2, hF⟩ := jbd_e hF
        refine jh_callV0 (o := 0) (as := []) (st := []) (JF_X5_unsettle hB hc_2) cw_X5_114 (iv_X5_unsettle) ⟨rfl, rfl, by decide, by decide⟩ rfl (hB 0 (by decide)) rfl rfl (Nat.le_of_ble_eq_true rfl) dX5_refuse_55 rfl ?_
        refine jr_iconst (v := 1) dX5_refuse_58 (by decide) rfl ?_
        exact jh_iret rfl dX5_refuse_59 hF
      · have hF := jif_p hF c1
        refine jr_iconst (v := 0) dX5_refuse_39 (by decide) rfl ?_
        exact jh_iret rfl dX5_refuse_40 hF
    · have hF := jif_n hF c1
      refine jr_iconst (v := 1) dX5_refuse_26 (by decide) rfl ?_
      refine jr_goto 31 dX5_refuse_27 (by decide) ?_
      refine jr_istore (L' := [(4, .int 1), (3, .int x3_1), (0, .ref (ja E 0 0)), (1, .int a1), (2, .int a2)]) dX5_refuse_31 (by decide) rfl rfl ?_
      refine jr_iload 0 dX5_refuse_33 rfl rfl ?_
      refine jr_iload_n 4 dX5_refuse_35 rfl rfl rfl ?_
      refine jr_icmp_ne 41 dX5_refuse_36 (by decide) rfl (fun c1 => ?_) (fun c1 => ?_)
      · have hF := jif_n hF c1
        refine jr_aload_n 2 dX5_refuse_41 rfl rfl rfl ?_
        refine gf_X5_28 rfl rfl (hB 0 (by decide)) dX5_refuse_42 rfl ?_
        refine jr_dup dX5_refuse_45 rfl rfl ?_
        refine gf_X5_141 rfl rfl (hB 3 (by decide)) dX5_refuse_46 rfl ?_
        refine jr_iload_n 1 dX5_refuse_49 rfl rfl rfl ?_
        refine jr_ixor dX5_refuse_50 rfl ?_
        refine pf_X5_141 rfl rfl (hB 3 (by decide)) dX5_refuse_51 ⟨rfl, rfl⟩ rfl (fun M_4 eM_4 => ?_)
        have hF := jlet_e hF M_4 eM_4
        refine jr_aload_n 2 dX5_refuse_54 rfl rfl rfl ?_
        obtain ⟨r_3, M_5, hc_3, hF⟩ := jbd_e hF
        refine jh_callV0 (o := 0) (as := []) (st := []) (JF_X5_unsettle hB hc_3) cw_X5_114 (iv_X5_unsettle) ⟨rfl, rfl, by decide, by decide⟩ rfl (hB 0 (by decide)) rfl rfl (Nat.le_of_ble_eq_true rfl) dX5_refuse_55 rfl ?_
        refine jr_iconst (v := 1) dX5_refuse_58 (by decide) rfl ?_
        exact jh_iret rfl dX5_refuse_59 hF
      · have hF := jif_p hF c1
        refine jr_iconst (v := 0) dX5_refuse_39 (by decide) rfl ?_
        exact jh_iret rfl dX5_refuse_40 hF
  · have hF := jif_p hF c1
    refine jr_iconst (v := (-1)) dX5_refuse_8 (by decide) rfl ?_
    exact jh_iret rfl dX5_refuse_9 hF
set_option maxHeartbeats 4000000 in
set_option maxRecDepth 100000 in
theorem JF_X5_isPost {E : jx_E} (hB : ∀ o, o < 8 → jB E o) {a1 : Int32} {M : jx_M} {r : Int32} {M' : jx_M} (hF : F_X5_isPost a1 M = some (r, M')) : jC E yX5_isPost cX5_isPost 2 (some FieldType.boolean) rm_X5_isPost [.ref (ja E 0 0), .int a1] M (fun x M'' => x = some (.int r) ∧ M'' = M') := by
  refine jC.ofJ (L := [(0, .ref (ja E 0 0)), (1, .int a1)]) (by decide +kernel) (Nat.le_of_ble_eq_true rfl) rfl ?_
  unfold F_X5_isPost at hF
  refine jr_iload_n 1 dX5_isPost_0 rfl rfl rfl ?_
  refine jr_if_lt 19 dX5_isPost_1 (by decide) rfl (fun c1 => ?_) (fun c1 => ?_)
  · have hF := jif_p hF c1
    refine jr_iconst (v := 0) dX5_isPost_19 (by decide) rfl ?_
    exact jh_zret rfl (Or.inl rfl) dX5_isPost_20 hF
  · have hF := jif_n hF c1
    refine jr_iload_n 1 dX5_isPost_4 rfl rfl rfl ?_
    refine jr_aload_n 0 dX5_isPost_5 rfl rfl rfl ?_
    refine gf_X5_21 rfl rfl (hB 0 (by decide)) dX5_isPost_6 rfl ?_
    refine gf_X5_221 rfl rfl (hB 2 (by decide)) dX5_isPost_9 rfl ?_
    refine jr_icmp_ge 19 dX5_isPost_12 (by decide) rfl (fun c1 => ?_) (fun c1 => ?_)
    · have hF := jif_p hF c1
      refine jr_iconst (v := 0) dX5_isPost_19 (by decide) rfl ?_
      exact jh_zret rfl (Or.inl rfl) dX5_isPost_20 hF
    · have hF := jif_n hF c1
      refine jr_iconst (v := 1) dX5_isPost_15 (by decide) rfl ?_
      refine jr_goto 20 dX5_isPost_16 (by decide) ?_
      exact jh_zret rfl (Or.inr rfl) dX5_isPost_20 hF
set_option maxHeartbeats 4000000 in
set_option maxRecDepth 100000 in
theorem JF_X5_isDecade {E : jx_E} (hB : ∀ o, o < 8 → jB E o) {a0 : Int32} {M : jx_M} {r : Int32} {M' : jx_M} (hF : F_X5_isDecade a0 M = some (r, M')) : jC E yX5_isDecade cX5_isDecade 1 (some FieldType.boolean) rm_X5_isDecade [.int a0] M (fun x M'' => x = some (.int r) ∧ M'' = M') := by
  refine jC.ofJ (L := [(0, .int a0)]) (by decide +kernel) (Nat.le_of_ble_eq_true rfl) rfl ?_
  unfold F_X5_isDecade at hF
  refine jr_iload_n 0 dX5_isDecade_0 rfl rfl rfl ?_
  refine jr_if_lt 14 dX5_isDecade_1 (by decide) rfl (fun c1 => ?_) (fun c1 => ?_)
  · have hF := jif_p hF c1
    refine jr_iconst (v := 0) dX5_isDecade_14 (by decide) rfl ?_
    exact jh_zret rfl (Or.inl rfl) dX5_isDecade_15 hF
  · have hF := jif_n hF c1
    refine jr_iload_n 0 dX5_isDecade_4 rfl rfl rfl ?_
    refine jr_bipush (v := 40) dX5_isDecade_5 (by decide) rfl ?_
    refine jr_icmp_ge 14 dX5_isDecade_7 (by decide) rfl (fun c1 => ?_) (fun c1 => ?_)
    · have hF := jif_p hF c1
      refine jr_iconst (v := 0) dX5_isDecade_14 (by decide) rfl ?_
      exact jh_zret rfl (Or.inl rfl) dX5_isDecade_15 hF
    · have hF := jif_n hF c1
      refine jr_iconst (v := 1) dX5_isDecade_10 (by decide) rfl ?_
      refine jr_goto 15 dX5_isDecade_11 (by decide) ?_
      exact jh_zret rfl (Or.inr rfl) dX5_isDecade_15 hF
set_option maxHeartbeats 4000000 in
set_option maxRecDepth 100000 in
theorem JF_X5_will {E : jx_E} (hB : ∀ o, o < 8 → jB E o) {a1 : Int32} {a2 : Int32} {a3 : Int32} {M : jx_M} {r : Int32} {M' : jx_M} (hF : F_X5_will a1 a2 a3 M = some (r, M')) : jC E yX5_will cX5_will 4 (some FieldType.int) rm_X5_will [.ref (ja E 0 0), .int a1, .int a2, .int a3] M (fun x M'' => x = some (.int r) ∧ M'' = M') := by
  refine jC.ofJ (L := [(0, .ref (ja E 0 0)), (1, .int a1), (2, .int a2), (3, .int a3)]) (by decide +kernel) (Nat.le_of_ble_eq_true rfl) rfl ?_
  unfold F_X5_will at hF
  refine jr_aload_n 0 dX5_will_0 rfl rfl rfl ?_
  refine jr_iload_n 1 dX5_will_1 rfl rfl rfl ?_
  obtain ⟨r_1, M_1, hc_1, hF⟩ := jbd_e hF
  refine jh_callV1 (v := .int r_1) (o := 0) (as := [.int a1]) (st := []) (JF_X5_isPost hB hc_1) cw_X5_151 (iv_X5_isPost) ⟨rfl, rfl, by decide, by decide⟩ rfl (hB 0 (by decide)) rfl rfl (Nat.le_of_ble_eq_true rfl) dX5_will_2 rfl ?_
  refine jr_if_eq 16 dX5_will_5 (by decide) rfl (fun c1 => ?_) (fun c1 => ?_)
  · have hF := jif_p hF c1
    refine jr_iconst (v := (-1)) dX5_will_16 (by decide) rfl ?_
    exact jh_iret rfl dX5_will_17 hF
  · have hF := jif_n hF c1
    refine jr_aload_n 0 dX5_will_8 rfl rfl rfl ?_
    refine jr_iload_n 2 dX5_will_9 rfl rfl rfl ?_
    obtain ⟨r_2, M_2, hc_2, hF⟩ := jbd_e hF
    refine jh_callV1 (v := .int r_2) (o := 0) (as := [.int a2]) (st := []) (JF_X5_isPerson hB hc_2) cw_X5_120 (iv_X5_isPerson) ⟨rfl, rfl, by decide, by decide⟩ rfl (hB 0 (by decide)) rfl rfl (Nat.le_of_ble_eq_true rfl) dX5_will_10 rfl ?_
    refine jr_if_ne 18 dX5_will_13 (by decide) rfl (fun c1 => ?_) (fun c1 => ?_)
    · have hF := jif_n hF c1
      refine jr_iload_n 3 dX5_will_18 rfl rfl rfl ?_
      obtain ⟨r_3, M_3, hc_3, hF⟩ := jbd_e hF
      refine jh_callS1 (v := .int r_3) (as := [.int a3]) (st := []) (JF_X5_isDecade hB hc_3) cw_X5_154 (iv_X5_isDecade) ⟨rfl, rfl, by decide, by decide⟩ rfl rfl (Nat.le_of_ble_eq_true rfl) dX5_will_19 rfl ?_
      refine jr_if_ne 28 dX5_will_22 (by decide) rfl (fun c1 => ?_) (fun c1 => ?_)
      · have hF := jif_n hF c1
        refine jr_aload_n 0 dX5_will_28 rfl rfl rfl ?_
        refine gf_X5_28 rfl rfl (hB 0 (by decide)) dX5_will_29 rfl ?_
        refine gf_X5_157 rfl rfl (hB 3 (by decide)) dX5_will_32 rfl ?_
        refine jr_bipush (v := 6) dX5_will_35 (by decide) rfl ?_
        refine jr_icmp_lt 43 dX5_will_37 (by decide) rfl (fun c1 => ?_) (fun c1 => ?_)
        · have hF := jif_p hF c1
          refine jr_aload_n 0 dX5_will_43 rfl rfl rfl ?_
          refine gf_X5_28 rfl rfl (hB 0 (by decide)) dX5_will_44 rfl ?_
          refine jr_iload_n 1 dX5_will_47 rfl rfl rfl ?_
          refine jr_iload_n 2 dX5_will_48 rfl rfl rfl ?_
          refine jr_iload_n 3 dX5_will_49 rfl rfl rfl ?_
          obtain ⟨r_4, M_4, hc_4, hF⟩ := jbd_e hF
          refine jh_callV0 (o := 3) (as := [.int a1, .int a2, .int a3]) (st := []) (JF_X2_addWill hB (Or.inl rfl) hc_4) cw_X5_160 (iv_X2_addWill) ⟨rfl, rfl, by decide, by decide⟩ rfl (hB 3 (by decide)) rfl rfl (Nat.le_of_ble_eq_true rfl) dX5_will_50 rfl ?_
          refine jr_aload_n 0 dX5_will_53 rfl rfl rfl ?_
          obtain ⟨r_5, M_5, hc_5, hF⟩ := jbd_e hF
          refine jh_callV0 (o := 0) (as := []) (st := []) (JF_X5_unsettle hB hc_5) cw_X5_114 (iv_X5_unsettle) ⟨rfl, rfl, by decide, by decide⟩ rfl (hB 0 (by decide)) rfl rfl (Nat.le_of_ble_eq_true rfl) dX5_will_54 rfl ?_
          refine jr_aload_n 0 dX5_will_57 rfl rfl rfl ?_
          refine gf_X5_28 rfl rfl (hB 0 (by decide)) dX5_will_58 rfl ?_
          refine gf_X5_157 rfl rfl (hB 3 (by decide)) dX5_will_61 rfl ?_
          refine jr_iconst (v := 1) dX5_will_64 (by decide) rfl ?_
          refine jr_isub dX5_will_65 rfl ?_
          exact jh_iret rfl dX5_will_66 hF
        · have hF := jif_n hF c1
          refine jr_bipush (v := (-4)) dX5_will_40 (by decide) rfl ?_
          exact jh_iret rfl dX5_will_42 hF
      · have hF := jif_p hF c1
        refine jr_bipush (v := (-2)) dX5_will_25 (by decide) rfl ?_
        exact jh_iret rfl dX5_will_27 hF
    · have hF := jif_p hF c1
      refine jr_iconst (v := (-1)) dX5_will_16 (by decide) rfl ?_
      exact jh_iret rfl dX5_will_17 hF
set_option maxHeartbeats 4000000 in
set_option maxRecDepth 100000 in
theorem JF_X5_burn {E : jx_E} (hB : ∀ o, o < 8 → jB E o) {a1 : Int32} {M : jx_M} {r : Int32} {M' : jx_M} (hF : F_X5_burn a1 M = some (r, M')) : jC E yX5_burn cX5_burn 2 (some FieldType.int) rm_X5_burn [.ref (ja E 0 0), .int a1] M (fun x M'' => x = some (.int r) ∧ M'' = M') := by
  refine jC.ofJ (L := [(0, .ref (ja E 0 0)), (1, .int a1)]) (by decide +kernel) (Nat.le_of_ble_eq_true rfl) rfl ?_
  unfold F_X5_burn at hF
  refine jr_iload_n 1 dX5_burn_0 rfl rfl rfl ?_
  refine jr_if_lt 15 dX5_burn_1 (by decide) rfl (fun c1 => ?_) (fun c1 => ?_)
  · have hF := jif_p hF c1
    refine jr_bipush (v := (-2)) dX5_burn_15 (by decide) rfl ?_
    exact jh_iret rfl dX5_burn_17 hF
  · have hF := jif_n hF c1
    refine jr_iload_n 1 dX5_burn_4 rfl rfl rfl ?_
    refine jr_aload_n 0 dX5_burn_5 rfl rfl rfl ?_
    refine gf_X5_28 rfl rfl (hB 0 (by decide)) dX5_burn_6 rfl ?_
    refine gf_X5_157 rfl rfl (hB 3 (by decide)) dX5_burn_9 rfl ?_
    refine jr_icmp_le 18 dX5_burn_12 (by decide) rfl (fun c1 => ?_) (fun c1 => ?_)
    · have hF := jif_p hF c1
      refine jr_aload_n 0 dX5_burn_18 rfl rfl rfl ?_
      refine gf_X5_28 rfl rfl (hB 0 (by decide)) dX5_burn_19 rfl ?_
      refine jr_dup dX5_burn_22 rfl rfl ?_
      refine gf_X5_157 rfl rfl (hB 3 (by decide)) dX5_burn_23 rfl ?_
      refine jr_iload_n 1 dX5_burn_26 rfl rfl rfl ?_
      refine jr_isub dX5_burn_27 rfl ?_
      refine pf_X5_157 rfl rfl (hB 3 (by decide)) dX5_burn_28 ⟨rfl, rfl⟩ rfl (fun M_1 eM_1 => ?_)
      have hF := jlet_e hF M_1 eM_1
      refine jr_aload_n 0 dX5_burn_31 rfl rfl rfl ?_
      obtain ⟨r_1, M_2, hc_1, hF⟩ := jbd_e hF
      refine jh_callV0 (o := 0) (as := []) (st := []) (JF_X5_unsettle hB hc_1) cw_X5_114 (iv_X5_unsettle) ⟨rfl, rfl, by decide, by decide⟩ rfl (hB 0 (by decide)) rfl rfl (Nat.le_of_ble_eq_true rfl) dX5_burn_32 rfl ?_
      refine jr_aload_n 0 dX5_burn_35 rfl rfl rfl ?_
      refine gf_X5_28 rfl rfl (hB 0 (by decide)) dX5_burn_36 rfl ?_
      refine gf_X5_157 rfl rfl (hB 3 (by decide)) dX5_burn_39 rfl ?_
      exact jh_iret rfl dX5_burn_42 hF
    · have hF := jif_n hF c1
      refine jr_bipush (v := (-2)) dX5_burn_15 (by decide) rfl ?_
      exact jh_iret rfl dX5_burn_17 hF
set_option maxHeartbeats 4000000 in
set_option maxRecDepth 100000 in
theorem JF_X5_giveUp {E : jx_E} (hB : ∀ o, o < 8 → jB E o) {a1 : Int32} {a2 : Int32} {M : jx_M} {r : Int32} {M' : jx_M} (hF : F_X5_giveUp a1 a2 M = some (r, M')) : jC E yX5_giveUp cX5_giveUp 4 (some FieldType.int) rm_X5_giveUp [.ref (ja E 0 0), .int a1, .int a2] M (fun x M'' => x = some (.int r) ∧ M'' = M') := by
  refine jC.ofJ (L := [(0, .ref (ja E 0 0)), (1, .int a1), (2, .int a2)]) (by decide +kernel) (Nat.le_of_ble_eq_true rfl) rfl ?_
  unfold F_X5_giveUp at hF
  refine jr_aload_n 0 dX5_giveUp_0 rfl rfl rfl ?_
  refine jr_iload_n 1 dX5_giveUp_1 rfl rfl rfl ?_
  obtain ⟨r_1, M_1, hc_1, hF⟩ := jbd_e hF
  refine jh_callV1 (v := .int r_1) (o := 0) (as := [.int a1]) (st := []) (JF_X5_isPost hB hc_1) cw_X5_151 (iv_X5_isPost) ⟨rfl, rfl, by decide, by decide⟩ rfl (hB 0 (by decide)) rfl rfl (Nat.le_of_ble_eq_true rfl) dX5_giveUp_2 rfl ?_
  refine jr_if_ne 10 dX5_giveUp_5 (by decide) rfl (fun c1 => ?_) (fun c1 => ?_)
  · have hF := jif_n hF c1
    refine jr_iload_n 2 dX5_giveUp_10 rfl rfl rfl ?_
    refine jr_if_lt 20 dX5_giveUp_11 (by decide) rfl (fun c1 => ?_) (fun c1 => ?_)
    · have hF := jif_p hF c1
      refine jr_bipush (v := (-2)) dX5_giveUp_20 (by decide) rfl ?_
      exact jh_iret rfl dX5_giveUp_22 hF
    · have hF := jif_n hF c1
      refine jr_iload_n 2 dX5_giveUp_14 rfl rfl rfl ?_
      refine jr_bipush (v := 40) dX5_giveUp_15 (by decide) rfl ?_
      refine jr_icmp_le 23 dX5_giveUp_17 (by decide) rfl (fun c1 => ?_) (fun c1 => ?_)
      · have hF := jif_p hF c1
        refine jr_aload_n 0 dX5_giveUp_23 rfl rfl rfl ?_
        refine gf_X5_28 rfl rfl (hB 0 (by decide)) dX5_giveUp_24 rfl ?_
        refine gf_X5_164 rfl rfl (hB 3 (by decide)) dX5_giveUp_27 rfl ?_
        refine jr_iload_n 1 dX5_giveUp_30 rfl rfl rfl ?_
        obtain ⟨hb_1, hF⟩ := jck_e hF
        refine jh_iald (ci := 2) (k := 3) rfl (hB 3 (by decide)) (by decide) rfl rfl hb_1 dX5_giveUp_31 rfl ?_
        refine jr_topi (fun x3_1 ex3_1 => ?_)
        have hF := jlet_e hF x3_1 ex3_1
        refine jr_istore_n (L' := [(3, .int x3_1), (0, .ref (ja E 0 0)), (1, .int a1), (2, .int a2)]) dX5_giveUp_32 rfl (by decide) rfl rfl ?_
        refine jr_aload_n 1 dX5_giveUp_33 rfl rfl rfl ?_
        refine gf_X5_28 rfl rfl (hB 0 (by decide)) dX5_giveUp_34 rfl ?_
        refine gf_X5_164 rfl rfl (hB 3 (by decide)) dX5_giveUp_37 rfl ?_
        refine jr_iload_n 2 dX5_giveUp_40 rfl rfl rfl ?_
        refine jr_iload_n 3 dX5_giveUp_41 rfl rfl rfl ?_
        obtain ⟨hb_2, hF⟩ := jck_e hF
        refine jh_iast (ci := 2) (k := 3) rfl (hB 3 (by decide)) (by decide) rfl rfl hb_2 dX5_giveUp_42 rfl (fun M_2 eM_2 => ?_)
        have hF := jlet_e hF M_2 eM_2
        refine jr_aload_n 1 dX5_giveUp_43 rfl rfl rfl ?_
        obtain ⟨r_2, M_3, hc_2, hF⟩ := jbd_e hF
        refine jh_callV0 (o := 0) (as := []) (st := []) (JF_X5_unsettle hB hc_2) cw_X5_114 (iv_X5_unsettle) ⟨rfl, rfl, by decide, by decide⟩ rfl (hB 0 (by decide)) rfl rfl (Nat.le_of_ble_eq_true rfl) dX5_giveUp_44 rfl ?_
        refine jr_iload_n 0 dX5_giveUp_47 rfl rfl rfl ?_
        exact jh_iret rfl dX5_giveUp_48 hF
      · have hF := jif_n hF c1
        refine jr_bipush (v := (-2)) dX5_giveUp_20 (by decide) rfl ?_
        exact jh_iret rfl dX5_giveUp_22 hF
  · have hF := jif_p hF c1
    refine jr_iconst (v := (-1)) dX5_giveUp_8 (by decide) rfl ?_
    exact jh_iret rfl dX5_giveUp_9 hF
set_option maxHeartbeats 4000000 in
set_option maxRecDepth 100000 in
theorem JF_X5_asItGoes {E : jx_E} (hB : ∀ o, o < 8 → jB E o) {M : jx_M} {r : Unit} {M' : jx_M} (hF : F_X5_asItGoes  M = some (r, M')) : jC E yX5_asItGoes cX5_asItGoes 1 (some (FieldType.object "CenturyPosts$Course")) rm_X5_asItGoes [.ref (ja E 0 0)] M (fun x M'' => x = some (.ref (ja E 5 0)) ∧ M'' = M') := by
  refine jC.ofJ (L := [(0, .ref (ja E 0 0))]) (by decide +kernel) (Nat.le_of_ble_eq_true rfl) rfl ?_
  unfold F_X5_asItGoes at hF
  refine jr_aload_n 0 dX5_asItGoes_0 rfl rfl rfl ?_
  refine gf_X5_58 rfl rfl (hB 0 (by decide)) dX5_asItGoes_1 rfl ?_
  refine jr_if_ne 28 dX5_asItGoes_4 (by decide) rfl (fun c1 => ?_) (fun c1 => ?_)
  · have hF := jif_n hF c1
    refine jr_aload_n 0 dX5_asItGoes_28 rfl rfl rfl ?_
    refine gf_X5_44 rfl rfl (hB 0 (by decide)) dX5_asItGoes_29 rfl ?_
    exact jh_aretU rfl dX5_asItGoes_32 hF
  · have hF := jif_p hF c1
    refine jr_aload_n 0 dX5_asItGoes_7 rfl rfl rfl ?_
    refine gf_X5_44 rfl rfl (hB 0 (by decide)) dX5_asItGoes_8 rfl ?_
    refine jr_aload_n 0 dX5_asItGoes_11 rfl rfl rfl ?_
    refine gf_X5_28 rfl rfl (hB 0 (by decide)) dX5_asItGoes_12 rfl ?_
    refine jr_bipush (v := 39) dX5_asItGoes_15 (by decide) rfl ?_
    refine jr_sipush (v := 1000) dX5_asItGoes_17 (by decide) rfl ?_
    obtain ⟨r_1, M_1, hc_1, hF⟩ := jbd_e hF
    refine jh_callV0 (o := 5) (as := [.ref (ja E 3 0), .int 39, .int 1000]) (st := []) (JF_X0_run hB (Or.inl rfl) (Or.inl rfl) hc_1) cw_X5_204 (iv_X0_run) ⟨rfl, rfl, by decide, by decide⟩ rfl (hB 5 (by decide)) rfl rfl (Nat.le_of_ble_eq_true rfl) dX5_asItGoes_20 rfl ?_
    refine jr_aload_n 0 dX5_asItGoes_23 rfl rfl rfl ?_
    refine jr_iconst (v := 1) dX5_asItGoes_24 (by decide) rfl ?_
    refine pf_X5_58 rfl rfl (hB 0 (by decide)) dX5_asItGoes_25 (by decide) rfl (fun M_2 eM_2 => ?_)
    have hF := jlet_e hF M_2 eM_2
    refine jr_aload_n 0 dX5_asItGoes_28 rfl rfl rfl ?_
    refine gf_X5_44 rfl rfl (hB 0 (by decide)) dX5_asItGoes_29 rfl ?_
    exact jh_aretU rfl dX5_asItGoes_32 hF
set_option maxHeartbeats 4000000 in
set_option maxRecDepth 100000 in
theorem JF_X5_guard {E : jx_E} (hB : ∀ o, o < 8 → jB E o) {a1 : Int32} {a2 : Int32} {M : jx_M} {r : Int32} {M' : jx_M} (hF : F_X5_guard a1 a2 M = some (r, M')) : jC E yX5_guard cX5_guard 3 (some FieldType.int) rm_X5_guard [.ref (ja E 0 0), .int a1, .int a2] M (fun x M'' => x = some (.int r) ∧ M'' = M') := by
  refine jC.ofJ (L := [(0, .ref (ja E 0 0)), (1, .int a1), (2, .int a2)]) (by decide +kernel) (Nat.le_of_ble_eq_true rfl) rfl ?_
  unfold F_X5_guard at hF
  refine jr_aload_n 0 dX5_guard_0 rfl rfl rfl ?_
  refine jr_iload_n 1 dX5_guard_1 rfl rfl rfl ?_
  obtain ⟨r_1, M_1, hc_1, hF⟩ := jbd_e hF
  refine jh_callV1 (v := .int r_1) (o := 0) (as := [.int a1]) (st := []) (JF_X5_isPost hB hc_1) cw_X5_151 (iv_X5_isPost) ⟨rfl, rfl, by decide, by decide⟩ rfl (hB 0 (by decide)) rfl rfl (Nat.le_of_ble_eq_true rfl) dX5_guard_2 rfl ?_
  refine jr_if_ne 10 dX5_guard_5 (by decide) rfl (fun c1 => ?_) (fun c1 => ?_)
  · have hF := jif_n hF c1
    refine jr_iload_n 2 dX5_guard_10 rfl rfl rfl ?_
    obtain ⟨r_2, M_2, hc_2, hF⟩ := jbd_e hF
    refine jh_callS1 (v := .int r_2) (as := [.int a2]) (st := []) (JF_X5_isDecade hB hc_2) cw_X5_154 (iv_X5_isDecade) ⟨rfl, rfl, by decide, by decide⟩ rfl rfl (Nat.le_of_ble_eq_true rfl) dX5_guard_11 rfl ?_
    refine jr_if_ne 20 dX5_guard_14 (by decide) rfl (fun c1 => ?_) (fun c1 => ?_)
    · have hF := jif_n hF c1
      refine jr_aload_n 0 dX5_guard_20 rfl rfl rfl ?_
      obtain ⟨r_3, M_3, hc_3, hF⟩ := jbd_e hF
      refine jh_callV1 (v := .ref (ja E 5 0)) (o := 0) (as := []) (st := []) (JF_X5_asItGoes hB hc_3) cw_X5_167 (iv_X5_asItGoes) ⟨rfl, rfl, by decide, by decide⟩ rfl (hB 0 (by decide)) rfl rfl (Nat.le_of_ble_eq_true rfl) dX5_guard_21 rfl ?_
      refine jr_iload_n 1 dX5_guard_24 rfl rfl rfl ?_
      refine jr_iload_n 2 dX5_guard_25 rfl rfl rfl ?_
      obtain ⟨r_4, M_4, hc_4, hF⟩ := jbd_e hF
      refine jh_callV1 (v := .int r_4) (o := 5) (as := [.int a1, .int a2]) (st := []) (JF_X0_guardAt hB (Or.inl rfl) hc_4) cw_X5_171 (iv_X0_guardAt) ⟨rfl, rfl, by decide, by decide⟩ rfl (hB 5 (by decide)) rfl rfl (Nat.le_of_ble_eq_true rfl) dX5_guard_26 rfl ?_
      exact jh_iret rfl dX5_guard_29 hF
    · have hF := jif_p hF c1
      refine jr_bipush (v := (-2)) dX5_guard_17 (by decide) rfl ?_
      exact jh_iret rfl dX5_guard_19 hF
  · have hF := jif_p hF c1
    refine jr_iconst (v := (-1)) dX5_guard_8 (by decide) rfl ?_
    exact jh_iret rfl dX5_guard_9 hF
set_option maxHeartbeats 4000000 in
set_option maxRecDepth 100000 in
theorem JF_X5_how {E : jx_E} (hB : ∀ o, o < 8 → jB E o) {a1 : Int32} {a2 : Int32} {M : jx_M} {r : Int32} {M' : jx_M} (hF : F_X5_how a1 a2 M = some (r, M')) : jC E yX5_how cX5_how 3 (some FieldType.int) rm_X5_how [.ref (ja E 0 0), .int a1, .int a2] M (fun x M'' => x = some (.int r) ∧ M'' = M') := by
  refine jC.ofJ (L := [(0, .ref (ja E 0 0)), (1, .int a1), (2, .int a2)]) (by decide +kernel) (Nat.le_of_ble_eq_true rfl) rfl ?_
  unfold F_X5_how at hF
  refine jr_aload_n 0 dX5_how_0 rfl rfl rfl ?_
  refine jr_iload_n 1 dX5_how_1 rfl rfl rfl ?_
  obtain ⟨r_1, M_1, hc_1, hF⟩ := jbd_e hF
  refine jh_callV1 (v := .int r_1) (o := 0) (as := [.int a1]) (st := []) (JF_X5_isPerson hB hc_1) cw_X5_120 (iv_X5_isPerson) ⟨rfl, rfl, by decide, by decide⟩ rfl (hB 0 (by decide)) rfl rfl (Nat.le_of_ble_eq_true rfl) dX5_how_2 rfl ?_
  refine jr_if_ne 10 dX5_how_5 (by decide) rfl (fun c1 => ?_) (fun c1 => ?_)
  · have hF := jif_n hF c1
    refine jr_iload_n 2 dX5_how_10 rfl rfl rfl ?_
    obtain ⟨r_2, M_2, hc_2, hF⟩ := jbd_e hF
    refine jh_callS1 (v := .int r_2) (as := [.int a2]) (st := []) (JF_X5_isDecade hB hc_2) cw_X5_154 (iv_X5_isDecade) ⟨rfl, rfl, by decide, by decide⟩ rfl rfl (Nat.le_of_ble_eq_true rfl) dX5_how_11 rfl ?_
    refine jr_if_ne 20 dX5_how_14 (by decide) rfl (fun c1 => ?_) (fun c1 => ?_)
    · have hF := jif_n hF c1
      refine jr_aload_n 0 dX5_how_20 rfl rfl rfl ?_
      obtain ⟨r_3, M_3, hc_3, hF⟩ := jbd_e hF
      refine jh_callV1 (v := .ref (ja E 5 0)) (o := 0) (as := []) (st := []) (JF_X5_asItGoes hB hc_3) cw_X5_167 (iv_X5_asItGoes) ⟨rfl, rfl, by decide, by decide⟩ rfl (hB 0 (by decide)) rfl rfl (Nat.le_of_ble_eq_true rfl) dX5_how_21 rfl ?_
      refine jr_iload_n 1 dX5_how_24 rfl rfl rfl ?_
      refine jr_iload_n 2 dX5_how_25 rfl rfl rfl ?_
      obtain ⟨r_4, M_4, hc_4, hF⟩ := jbd_e hF
      refine jh_callV1 (v := .int r_4) (o := 5) (as := [.int a1, .int a2]) (st := []) (JF_X0_stateAt hB (Or.inl rfl) hc_4) cw_X5_174 (iv_X0_stateAt) ⟨rfl, rfl, by decide, by decide⟩ rfl (hB 5 (by decide)) rfl rfl (Nat.le_of_ble_eq_true rfl) dX5_how_26 rfl ?_
      exact jh_iret rfl dX5_how_29 hF
    · have hF := jif_p hF c1
      refine jr_bipush (v := (-2)) dX5_how_17 (by decide) rfl ?_
      exact jh_iret rfl dX5_how_19 hF
  · have hF := jif_p hF c1
    refine jr_iconst (v := (-1)) dX5_how_8 (by decide) rfl ?_
    exact jh_iret rfl dX5_how_9 hF
set_option maxHeartbeats 4000000 in
set_option maxRecDepth 100000 in
theorem JF_X5_age {E : jx_E} (hB : ∀ o, o < 8 → jB E o) {a1 : Int32} {a2 : Int32} {M : jx_M} {r : Int32} {M' : jx_M} (hF : F_X5_age a1 a2 M = some (r, M')) : jC E yX5_age cX5_age 3 (some FieldType.int) rm_X5_age [.ref (ja E 0 0), .int a1, .int a2] M (fun x M'' => x = some (.int r) ∧ M'' = M') := by
  refine jC.ofJ (L := [(0, .ref (ja E 0 0)), (1, .int a1), (2, .int a2)]) (by decide +kernel) (Nat.le_of_ble_eq_true rfl) rfl ?_
  unfold F_X5_age at hF
  refine jr_aload_n 0 dX5_age_0 rfl rfl rfl ?_
  refine jr_iload_n 1 dX5_age_1 rfl rfl rfl ?_
  obtain ⟨r_1, M_1, hc_1, hF⟩ := jbd_e hF
  refine jh_callV1 (v := .int r_1) (o := 0) (as := [.int a1]) (st := []) (JF_X5_isPerson hB hc_1) cw_X5_120 (iv_X5_isPerson) ⟨rfl, rfl, by decide, by decide⟩ rfl (hB 0 (by decide)) rfl rfl (Nat.le_of_ble_eq_true rfl) dX5_age_2 rfl ?_
  refine jr_if_ne 10 dX5_age_5 (by decide) rfl (fun c1 => ?_) (fun c1 => ?_)
  · have hF := jif_n hF c1
    refine jr_iload_n 2 dX5_age_10 rfl rfl rfl ?_
    obtain ⟨r_2, M_2, hc_2, hF⟩ := jbd_e hF
    refine jh_callS1 (v := .int r_2) (as := [.int a2]) (st := []) (JF_X5_isDecade hB hc_2) cw_X5_154 (iv_X5_isDecade) ⟨rfl, rfl, by decide, by decide⟩ rfl rfl (Nat.le_of_ble_eq_true rfl) dX5_age_11 rfl ?_
    refine jr_if_ne 20 dX5_age_14 (by decide) rfl (fun c1 => ?_) (fun c1 => ?_)
    · have hF := jif_n hF c1
      refine jr_aload_n 0 dX5_age_20 rfl rfl rfl ?_
      obtain ⟨r_3, M_3, hc_3, hF⟩ := jbd_e hF
      refine jh_callV1 (v := .ref (ja E 5 0)) (o := 0) (as := []) (st := []) (JF_X5_asItGoes hB hc_3) cw_X5_167 (iv_X5_asItGoes) ⟨rfl, rfl, by decide, by decide⟩ rfl (hB 0 (by decide)) rfl rfl (Nat.le_of_ble_eq_true rfl) dX5_age_21 rfl ?_
      refine jr_iload_n 1 dX5_age_24 rfl rfl rfl ?_
      refine jr_iload_n 2 dX5_age_25 rfl rfl rfl ?_
      obtain ⟨r_4, M_4, hc_4, hF⟩ := jbd_e hF
      refine jh_callV1 (v := .int r_4) (o := 5) (as := [.int a1, .int a2]) (st := []) (JF_X0_agedAt hB (Or.inl rfl) hc_4) cw_X5_177 (iv_X0_agedAt) ⟨rfl, rfl, by decide, by decide⟩ rfl (hB 5 (by decide)) rfl rfl (Nat.le_of_ble_eq_true rfl) dX5_age_26 rfl ?_
      exact jh_iret rfl dX5_age_29 hF
    · have hF := jif_p hF c1
      refine jr_bipush (v := (-2)) dX5_age_17 (by decide) rfl ?_
      exact jh_iret rfl dX5_age_19 hF
  · have hF := jif_p hF c1
    refine jr_iconst (v := (-1)) dX5_age_8 (by decide) rfl ?_
    exact jh_iret rfl dX5_age_9 hF
set_option maxHeartbeats 4000000 in
set_option maxRecDepth 100000 in
theorem JF_X5_empty {E : jx_E} (hB : ∀ o, o < 8 → jB E o) {a1 : Int32} {M : jx_M} {r : Int32} {M' : jx_M} (hF : F_X5_empty a1 M = some (r, M')) : jC E yX5_empty cX5_empty 2 (some FieldType.int) rm_X5_empty [.ref (ja E 0 0), .int a1] M (fun x M'' => x = some (.int r) ∧ M'' = M') := by
  refine jC.ofJ (L := [(0, .ref (ja E 0 0)), (1, .int a1)]) (by decide +kernel) (Nat.le_of_ble_eq_true rfl) rfl ?_
  unfold F_X5_empty at hF
  refine jr_iload_n 1 dX5_empty_0 rfl rfl rfl ?_
  obtain ⟨r_1, M_1, hc_1, hF⟩ := jbd_e hF
  refine jh_callS1 (v := .int r_1) (as := [.int a1]) (st := []) (JF_X5_isDecade hB hc_1) cw_X5_154 (iv_X5_isDecade) ⟨rfl, rfl, by decide, by decide⟩ rfl rfl (Nat.le_of_ble_eq_true rfl) dX5_empty_1 rfl ?_
  refine jr_if_ne 10 dX5_empty_4 (by decide) rfl (fun c1 => ?_) (fun c1 => ?_)
  · have hF := jif_n hF c1
    refine jr_aload_n 0 dX5_empty_10 rfl rfl rfl ?_
    obtain ⟨r_2, M_2, hc_2, hF⟩ := jbd_e hF
    refine jh_callV1 (v := .int r_2) (o := 0) (as := []) (st := []) (JF_X5_isLand hB hc_2) cw_X5_144 (iv_X5_isLand) ⟨rfl, rfl, by decide, by decide⟩ rfl (hB 0 (by decide)) rfl rfl (Nat.le_of_ble_eq_true rfl) dX5_empty_11 rfl ?_
    refine jr_if_ne 20 dX5_empty_14 (by decide) rfl (fun c1 => ?_) (fun c1 => ?_)
    · have hF := jif_n hF c1
      refine jr_aload_n 0 dX5_empty_20 rfl rfl rfl ?_
      obtain ⟨r_3, M_3, hc_3, hF⟩ := jbd_e hF
      refine jh_callV1 (v := .ref (ja E 5 0)) (o := 0) (as := []) (st := []) (JF_X5_asItGoes hB hc_3) cw_X5_167 (iv_X5_asItGoes) ⟨rfl, rfl, by decide, by decide⟩ rfl (hB 0 (by decide)) rfl rfl (Nat.le_of_ble_eq_true rfl) dX5_empty_21 rfl ?_
      refine gf_X5_180 rfl rfl (hB 5 (by decide)) dX5_empty_24 rfl ?_
      refine jr_iload_n 1 dX5_empty_27 rfl rfl rfl ?_
      obtain ⟨hb_1, hF⟩ := jck_e hF
      refine jh_iald (ci := 0) (k := 0) rfl (hB 5 (by decide)) (by decide) rfl rfl hb_1 dX5_empty_28 rfl ?_
      exact jh_iret rfl dX5_empty_29 hF
    · have hF := jif_p hF c1
      refine jr_bipush (v := (-3)) dX5_empty_17 (by decide) rfl ?_
      exact jh_iret rfl dX5_empty_19 hF
  · have hF := jif_p hF c1
    refine jr_bipush (v := (-2)) dX5_empty_7 (by decide) rfl ?_
    exact jh_iret rfl dX5_empty_9 hF
set_option maxHeartbeats 4000000 in
set_option maxRecDepth 100000 in
theorem JF_X5_empties {E : jx_E} (hB : ∀ o, o < 8 → jB E o) {a1 : Int32} {M : jx_M} {r : Int32} {M' : jx_M} (hF : F_X5_empties a1 M = some (r, M')) : jC E yX5_empties cX5_empties 2 (some FieldType.int) rm_X5_empties [.ref (ja E 0 0), .int a1] M (fun x M'' => x = some (.int r) ∧ M'' = M') := by
  refine jC.ofJ (L := [(0, .ref (ja E 0 0)), (1, .int a1)]) (by decide +kernel) (Nat.le_of_ble_eq_true rfl) rfl ?_
  unfold F_X5_empties at hF
  refine jr_iload_n 1 dX5_empties_0 rfl rfl rfl ?_
  obtain ⟨r_1, M_1, hc_1, hF⟩ := jbd_e hF
  refine jh_callS1 (v := .int r_1) (as := [.int a1]) (st := []) (JF_X5_isDecade hB hc_1) cw_X5_154 (iv_X5_isDecade) ⟨rfl, rfl, by decide, by decide⟩ rfl rfl (Nat.le_of_ble_eq_true rfl) dX5_empties_1 rfl ?_
  refine jr_if_ne 10 dX5_empties_4 (by decide) rfl (fun c1 => ?_) (fun c1 => ?_)
  · have hF := jif_n hF c1
    refine jr_aload_n 0 dX5_empties_10 rfl rfl rfl ?_
    obtain ⟨r_2, M_2, hc_2, hF⟩ := jbd_e hF
    refine jh_callV1 (v := .int r_2) (o := 0) (as := []) (st := []) (JF_X5_isLand hB hc_2) cw_X5_144 (iv_X5_isLand) ⟨rfl, rfl, by decide, by decide⟩ rfl (hB 0 (by decide)) rfl rfl (Nat.le_of_ble_eq_true rfl) dX5_empties_11 rfl ?_
    refine jr_if_ne 20 dX5_empties_14 (by decide) rfl (fun c1 => ?_) (fun c1 => ?_)
    · have hF := jif_n hF c1
      refine jr_aload_n 0 dX5_empties_20 rfl rfl rfl ?_
      obtain ⟨r_3, M_3, hc_3, hF⟩ := jbd_e hF
      refine jh_callV1 (v := .ref (ja E 5 0)) (o := 0) (as := []) (st := []) (JF_X5_asItGoes hB hc_3) cw_X5_167 (iv_X5_asItGoes) ⟨rfl, rfl, by decide, by decide⟩ rfl (hB 0 (by decide)) rfl rfl (Nat.le_of_ble_eq_true rfl) dX5_empties_21 rfl ?_
      refine jr_iload_n 1 dX5_empties_24 rfl rfl rfl ?_
      obtain ⟨r_4, M_4, hc_4, hF⟩ := jbd_e hF
      refine jh_callV1 (v := .int r_4) (o := 5) (as := [.int a1]) (st := []) (JF_X0_missedBy hB (Or.inl rfl) hc_4) cw_X5_183 (iv_X0_missedBy) ⟨rfl, rfl, by decide, by decide⟩ rfl (hB 5 (by decide)) rfl rfl (Nat.le_of_ble_eq_true rfl) dX5_empties_25 rfl ?_
      exact jh_iret rfl dX5_empties_28 hF
    · have hF := jif_p hF c1
      refine jr_bipush (v := (-3)) dX5_empties_17 (by decide) rfl ?_
      exact jh_iret rfl dX5_empties_19 hF
  · have hF := jif_p hF c1
    refine jr_bipush (v := (-2)) dX5_empties_7 (by decide) rfl ?_
    exact jh_iret rfl dX5_empties_9 hF
set_option maxHeartbeats 4000000 in
set_option maxRecDepth 100000 in
theorem JL_X5_awake_30 {E : jx_E} (hB : ∀ o, o < 8 → jB E o) {y1 : Int32} {k : Int32 → jx_M → Option (Int32 × jx_M)} {r : Int32} {M' : jx_M} (hk : ∀ (z3 : Int32) (M : jx_M), k z3 M = some (r, M') → jJ E yX5_awake cX5_awake 5 (some FieldType.int) rm_X5_awake (fun x M'' => x = some (.int r) ∧ M'' = M') 66 [(3, .int z3)] [] M) : ∀ (n : Nat) (z3 : Int32) (z4 : Int32) (M : jx_M), L_X5_awake_30 y1 k n z3 z4 M = some (r, M') → jJ E yX5_awake cX5_awake 5 (some FieldType.int) rm_X5_awake (fun x M'' => x = some (.int r) ∧ M'' = M') 30 [(0, .ref (ja E 0 0)), (1, .int y1), (2, .ref (ja E 5 0)), (3, .int z3), (4, .int z4)] [] M := by
  intro n
  induction n with
  | zero => intro z3 z4 M hF; exact nomatch (show (none : Option (Int32 × jx_M)) = some _ from hF)
  | succ n ih =>
    intro z3 z4 M hF
    rw [L_X5_awake_30.eq_2] at hF
    refine jr_iload 4 dX5_awake_30 rfl rfl ?_
    refine jr_aload_n 0 dX5_awake_32 rfl rfl rfl ?_
    refine gf_X5_21 rfl rfl (hB 0 (by decide)) dX5_awake_33 rfl ?_
    refine gf_X5_117 rfl rfl (hB 2 (by decide)) dX5_awake_36 rfl ?_
    refine jr_icmp_ge 66 dX5_awake_39 (by decide) rfl (fun c1 => ?_) (fun c1 => ?_)
    · have hF := jif_p hF c1
      refine jr_sub [3] rfl ?_
      exact hk z3 M hF
    · have hF := jif_n hF c1
      refine jr_aload_n 2 dX5_awake_42 rfl rfl rfl ?_
      refine jr_iload 4 dX5_awake_43 rfl rfl ?_
      refine jr_iload_n 1 dX5_awake_45 rfl rfl rfl ?_
      obtain ⟨r_4, M_4, hc_4, hF⟩ := jbd_e hF
      refine jh_callV1 (v := .int r_4) (o := 5) (as := [.int z4, .int y1]) (st := []) (JF_X0_stateAt hB (Or.inl rfl) hc_4) cw_X5_174 (iv_X0_stateAt) ⟨rfl, rfl, by decide, by decide⟩ rfl (hB 5 (by decide)) rfl rfl (Nat.le_of_ble_eq_true rfl) dX5_awake_46 rfl ?_
      refine jr_iconst (v := 1) dX5_awake_49 (by decide) rfl ?_
      refine jr_icmp_ne 60 dX5_awake_50 (by decide) rfl (fun c1 => ?_) (fun c1 => ?_)
      · have hF := jif_n hF c1
        obtain ⟨x4_1, ex4_1⟩ : ∃ z : Int32, z = z4 + 1 := ⟨_, rfl⟩
        have hF := jlet_e hF x4_1 ex4_1
        refine jr_iinc (v := x4_1) (L' := [(4, .int x4_1), (0, .ref (ja E 0 0)), (1, .int y1), (2, .ref (ja E 5 0)), (3, .int z3)]) 4 dX5_awake_60 rfl (by rw [ex4_1]; rfl) (by decide) rfl rfl ?_
        refine jr_goto 30 dX5_awake_63 (by decide) ?_
        refine jr_sub [1, 2, 3, 4, 0] rfl ?_
        exact ih z3 x4_1 M_4 hF
      · have hF := jif_p hF c1
        refine jr_iload_n 3 dX5_awake_53 rfl rfl rfl ?_
        refine jr_iconst (v := 1) dX5_awake_54 (by decide) rfl ?_
        refine jr_iload 4 dX5_awake_55 rfl rfl ?_
        refine jr_ishl dX5_awake_57 rfl ?_
        refine jr_ior dX5_awake_58 rfl ?_
        refine jr_topi (fun x3_1 ex3_1 => ?_)
        have hF := jlet_e hF x3_1 ex3_1
        refine jr_istore_n (L' := [(3, .int x3_1), (0, .ref (ja E 0 0)), (1, .int y1), (2, .ref (ja E 5 0)), (4, .int z4)]) dX5_awake_59 rfl (by decide) rfl rfl ?_
        obtain ⟨x4_2, ex4_2⟩ : ∃ z : Int32, z = z4 + 1 := ⟨_, rfl⟩
        have hF := jlet_e hF x4_2 ex4_2
        refine jr_iinc (v := x4_2) (L' := [(4, .int x4_2), (3, .int x3_1), (0, .ref (ja E 0 0)), (1, .int y1), (2, .ref (ja E 5 0))]) 4 dX5_awake_60 rfl (by rw [ex4_2]; rfl) (by decide) rfl rfl ?_
        refine jr_goto 30 dX5_awake_63 (by decide) ?_
        refine jr_sub [2, 3, 4, 1, 0] rfl ?_
        exact ih x3_1 x4_2 M_4 hF
set_option maxHeartbeats 4000000 in
set_option maxRecDepth 100000 in
theorem JF_X5_awake {E : jx_E} (hB : ∀ o, o < 8 → jB E o) {a1 : Int32} {M : jx_M} {r : Int32} {M' : jx_M} (hF : F_X5_awake a1 M = some (r, M')) : jC E yX5_awake cX5_awake 5 (some FieldType.int) rm_X5_awake [.ref (ja E 0 0), .int a1] M (fun x M'' => x = some (.int r) ∧ M'' = M') := by
  refine jC.ofJ (L := [(0, .ref (ja E 0 0)), (1, .int a1)]) (by decide +kernel) (Nat.le_of_ble_eq_true rfl) rfl ?_
  unfold F_X5_awake at hF
  refine jr_iload_n 1 dX5_awake_0 rfl rfl rfl ?_
  obtain ⟨r_1, M_1, hc_1, hF⟩ := jbd_e hF
  refine jh_callS1 (v := .int r_1) (as := [.int a1]) (st := []) (JF_X5_isDecade hB hc_1) cw_X5_154 (iv_X5_isDecade) ⟨rfl, rfl, by decide, by decide⟩ rfl rfl (Nat.le_of_ble_eq_true rfl) dX5_awake_1 rfl ?_
  refine jr_if_ne 10 dX5_awake_4 (by decide) rfl (fun c1 => ?_) (fun c1 => ?_)
  · have hF := jif_n hF c1
    refine jr_aload_n 0 dX5_awake_10 rfl rfl rfl ?_
    obtain ⟨r_2, M_2, hc_2, hF⟩ := jbd_e hF
    refine jh_callV1 (v := .int r_2) (o := 0) (as := []) (st := []) (JF_X5_isLand hB hc_2) cw_X5_144 (iv_X5_isLand) ⟨rfl, rfl, by decide, by decide⟩ rfl (hB 0 (by decide)) rfl rfl (Nat.le_of_ble_eq_true rfl) dX5_awake_11 rfl ?_
    refine jr_if_ne 20 dX5_awake_14 (by decide) rfl (fun c1 => ?_) (fun c1 => ?_)
    · have hF := jif_n hF c1
      refine jr_aload_n 0 dX5_awake_20 rfl rfl rfl ?_
      obtain ⟨r_3, M_3, hc_3, hF⟩ := jbd_e hF
      refine jh_callV1 (v := .ref (ja E 5 0)) (o := 0) (as := []) (st := []) (JF_X5_asItGoes hB hc_3) cw_X5_167 (iv_X5_asItGoes) ⟨rfl, rfl, by decide, by decide⟩ rfl (hB 0 (by decide)) rfl rfl (Nat.le_of_ble_eq_true rfl) dX5_awake_21 rfl ?_
      refine jr_astore_n (L' := [(2, .ref (ja E 5 0)), (0, .ref (ja E 0 0)), (1, .int a1)]) dX5_awake_24 rfl (by decide) rfl rfl ?_
      refine jr_iconst (v := 0) dX5_awake_25 (by decide) rfl ?_
      refine jr_istore_n (L' := [(3, .int 0), (2, .ref (ja E 5 0)), (0, .ref (ja E 0 0)), (1, .int a1)]) dX5_awake_26 rfl (by decide) rfl rfl ?_
      refine jr_iconst (v := 0) dX5_awake_27 (by decide) rfl ?_
      refine jr_istore (L' := [(4, .int 0), (3, .int 0), (2, .ref (ja E 5 0)), (0, .ref (ja E 0 0)), (1, .int a1)]) dX5_awake_28 (by decide) rfl rfl ?_
      refine jr_sub [3, 4, 2, 1, 0] rfl ?_
      refine JL_X5_awake_30 hB (fun x3_2 M_5 hF => ?_) jfu 0 0 M_3 hF
      refine jr_iload_n 0 dX5_awake_66 rfl rfl rfl ?_
      exact jh_iret rfl dX5_awake_67 hF
    · have hF := jif_p hF c1
      refine jr_bipush (v := (-3)) dX5_awake_17 (by decide) rfl ?_
      exact jh_iret rfl dX5_awake_19 hF
  · have hF := jif_p hF c1
    refine jr_bipush (v := (-2)) dX5_awake_7 (by decide) rfl ?_
    exact jh_iret rfl dX5_awake_9 hF
set_option maxHeartbeats 4000000 in
set_option maxRecDepth 100000 in
theorem JL_X5_slept_31 {E : jx_E} (hB : ∀ o, o < 8 → jB E o) {y1 : Int32} {y2 : Int32} {k : Int32 → jx_M → Option (Int32 × jx_M)} {r : Int32} {M' : jx_M} (hk : ∀ (z4 : Int32) (M : jx_M), k z4 M = some (r, M') → jJ E yX5_slept cX5_slept 6 (some FieldType.int) rm_X5_slept (fun x M'' => x = some (.int r) ∧ M'' = M') 57 [(4, .int z4)] [] M) : ∀ (n : Nat) (z4 : Int32) (z5 : Int32) (M : jx_M), L_X5_slept_31 y1 y2 k n z4 z5 M = some (r, M') → jJ E yX5_slept cX5_slept 6 (some FieldType.int) rm_X5_slept (fun x M'' => x = some (.int r) ∧ M'' = M') 31 [(1, .int y1), (2, .int y2), (3, .ref (ja E 5 0)), (4, .int z4), (5, .int z5)] [] M := by
  intro n
  induction n with
  | zero => intro z4 z5 M hF; exact nomatch (show (none : Option (Int32 × jx_M)) = some _ from hF)
  | succ n ih =>
    intro z4 z5 M hF
    rw [L_X5_slept_31.eq_2] at hF
    refine jr_iload 4 dX5_slept_31 rfl rfl ?_
    refine jr_iload_n 1 dX5_slept_33 rfl rfl rfl ?_
    refine jr_icmp_gt 57 dX5_slept_34 (by decide) rfl (fun c1 => ?_) (fun c1 => ?_)
    · have hF := jif_p hF c1
      refine jr_sub [3] rfl ?_
      exact hk z4 M hF
    · have hF := jif_n hF c1
      refine jr_aload_n 2 dX5_slept_37 rfl rfl rfl ?_
      refine jr_iload_n 0 dX5_slept_38 rfl rfl rfl ?_
      refine jr_iload 4 dX5_slept_39 rfl rfl ?_
      obtain ⟨r_4, M_4, hc_4, hF⟩ := jbd_e hF
      refine jh_callV1 (v := .int r_4) (o := 5) (as := [.int y1, .int z5]) (st := []) (JF_X0_stateAt hB (Or.inl rfl) hc_4) cw_X5_174 (iv_X0_stateAt) ⟨rfl, rfl, by decide, by decide⟩ rfl (hB 5 (by decide)) rfl rfl (Nat.le_of_ble_eq_true rfl) dX5_slept_41 rfl ?_
      refine jr_iconst (v := 2) dX5_slept_44 (by decide) rfl ?_
      refine jr_icmp_ne 51 dX5_slept_45 (by decide) rfl (fun c1 => ?_) (fun c1 => ?_)
      · have hF := jif_n hF c1
        obtain ⟨x5_1, ex5_1⟩ : ∃ z : Int32, z = z5 + 1 := ⟨_, rfl⟩
        have hF := jlet_e hF x5_1 ex5_1
        refine jr_iinc (v := x5_1) (L' := [(5, .int x5_1), (1, .int y1), (2, .int y2), (3, .ref (ja E 5 0)), (4, .int z4)]) 4 dX5_slept_51 rfl (by rw [ex5_1]; rfl) (by decide) rfl rfl ?_
        refine jr_goto 31 dX5_slept_54 (by decide) ?_
        refine jr_sub [1, 2, 3, 4, 0] rfl ?_
        exact ih z4 x5_1 M_4 hF
      · have hF := jif_p hF c1
        obtain ⟨x4_1, ex4_1⟩ : ∃ z : Int32, z = z4 + 1 := ⟨_, rfl⟩
        have hF := jlet_e hF x4_1 ex4_1
        refine jr_iinc (v := x4_1) (L' := [(4, .int x4_1), (1, .int y1), (2, .int y2), (3, .ref (ja E 5 0)), (5, .int z5)]) 3 dX5_slept_48 rfl (by rw [ex4_1]; rfl) (by decide) rfl rfl ?_
        obtain ⟨x5_2, ex5_2⟩ : ∃ z : Int32, z = z5 + 1 := ⟨_, rfl⟩
        have hF := jlet_e hF x5_2 ex5_2
        refine jr_iinc (v := x5_2) (L' := [(5, .int x5_2), (4, .int x4_1), (1, .int y1), (2, .int y2), (3, .ref (ja E 5 0))]) 4 dX5_slept_51 rfl (by rw [ex5_2]; rfl) (by decide) rfl rfl ?_
        refine jr_goto 31 dX5_slept_54 (by decide) ?_
        refine jr_sub [2, 3, 4, 1, 0] rfl ?_
        exact ih x4_1 x5_2 M_4 hF
set_option maxHeartbeats 4000000 in
set_option maxRecDepth 100000 in
theorem JF_X5_slept {E : jx_E} (hB : ∀ o, o < 8 → jB E o) {a1 : Int32} {a2 : Int32} {M : jx_M} {r : Int32} {M' : jx_M} (hF : F_X5_slept a1 a2 M = some (r, M')) : jC E yX5_slept cX5_slept 6 (some FieldType.int) rm_X5_slept [.ref (ja E 0 0), .int a1, .int a2] M (fun x M'' => x = some (.int r) ∧ M'' = M') := by
  refine jC.ofJ (L := [(0, .ref (ja E 0 0)), (1, .int a1), (2, .int a2)]) (by decide +kernel) (Nat.le_of_ble_eq_true rfl) rfl ?_
  unfold F_X5_slept at hF
  refine jr_aload_n 0 dX5_slept_0 rfl rfl rfl ?_
  refine jr_iload_n 1 dX5_slept_1 rfl rfl rfl ?_
  obtain ⟨r_1, M_1, hc_1, hF⟩ := jbd_e hF
  refine jh_callV1 (v := .int r_1) (o := 0) (as := [.int a1]) (st := []) (JF_X5_isPerson hB hc_1) cw_X5_120 (iv_X5_isPerson) ⟨rfl, rfl, by decide, by decide⟩ rfl (hB 0 (by decide)) rfl rfl (Nat.le_of_ble_eq_true rfl) dX5_slept_2 rfl ?_
  refine jr_if_ne 10 dX5_slept_5 (by decide) rfl (fun c1 => ?_) (fun c1 => ?_)
  · have hF := jif_n hF c1
    refine jr_iload_n 2 dX5_slept_10 rfl rfl rfl ?_
    obtain ⟨r_2, M_2, hc_2, hF⟩ := jbd_e hF
    refine jh_callS1 (v := .int r_2) (as := [.int a2]) (st := []) (JF_X5_isDecade hB hc_2) cw_X5_154 (iv_X5_isDecade) ⟨rfl, rfl, by decide, by decide⟩ rfl rfl (Nat.le_of_ble_eq_true rfl) dX5_slept_11 rfl ?_
    refine jr_if_ne 20 dX5_slept_14 (by decide) rfl (fun c1 => ?_) (fun c1 => ?_)
    · have hF := jif_n hF c1
      refine jr_aload_n 0 dX5_slept_20 rfl rfl rfl ?_
      obtain ⟨r_3, M_3, hc_3, hF⟩ := jbd_e hF
      refine jh_callV1 (v := .ref (ja E 5 0)) (o := 0) (as := []) (st := []) (JF_X5_asItGoes hB hc_3) cw_X5_167 (iv_X5_asItGoes) ⟨rfl, rfl, by decide, by decide⟩ rfl (hB 0 (by decide)) rfl rfl (Nat.le_of_ble_eq_true rfl) dX5_slept_21 rfl ?_
      refine jr_astore_n (L' := [(3, .ref (ja E 5 0)), (0, .ref (ja E 0 0)), (1, .int a1), (2, .int a2)]) dX5_slept_24 rfl (by decide) rfl rfl ?_
      refine jr_iconst (v := 0) dX5_slept_25 (by decide) rfl ?_
      refine jr_istore (L' := [(4, .int 0), (3, .ref (ja E 5 0)), (0, .ref (ja E 0 0)), (1, .int a1), (2, .int a2)]) dX5_slept_26 (by decide) rfl rfl ?_
      refine jr_iconst (v := 0) dX5_slept_28 (by decide) rfl ?_
      refine jr_istore (L' := [(5, .int 0), (4, .int 0), (3, .ref (ja E 5 0)), (0, .ref (ja E 0 0)), (1, .int a1), (2, .int a2)]) dX5_slept_29 (by decide) rfl rfl ?_
      refine jr_sub [4, 5, 2, 1, 0] rfl ?_
      refine JL_X5_slept_31 hB (fun x4_2 M_5 hF => ?_) jfu 0 0 M_3 hF
      refine jr_iload 0 dX5_slept_57 rfl rfl ?_
      exact jh_iret rfl dX5_slept_59 hF
    · have hF := jif_p hF c1
      refine jr_bipush (v := (-2)) dX5_slept_17 (by decide) rfl ?_
      exact jh_iret rfl dX5_slept_19 hF
  · have hF := jif_p hF c1
    refine jr_iconst (v := (-1)) dX5_slept_8 (by decide) rfl ?_
    exact jh_iret rfl dX5_slept_9 hF
set_option maxHeartbeats 4000000 in
set_option maxRecDepth 100000 in
theorem JL_X5_findFalls_29 {E : jx_E} (hB : ∀ o, o < 8 → jB E o) {y1 : Int32} {k : jx_M → Option (Unit × jx_M)} {r : Unit} {M' : jx_M} (hk : ∀ (M : jx_M), k M = some (r, M') → jJ E yX5_findFalls cX5_findFalls 3 none rm_X5_findFalls (fun x M'' => x = none ∧ M'' = M') 96 [(0, .ref (ja E 0 0))] [] M) : ∀ (n : Nat) (z2 : Int32) (M : jx_M), L_X5_findFalls_29 y1 k n z2 M = some (r, M') → jJ E yX5_findFalls cX5_findFalls 3 none rm_X5_findFalls (fun x M'' => x = none ∧ M'' = M') 29 [(0, .ref (ja E 0 0)), (1, .int y1), (2, .int z2)] [] M := by
  intro n
  induction n with
  | zero => intro z2 M hF; exact nomatch (show (none : Option (Unit × jx_M)) = some _ from hF)
  | succ n ih =>
    intro z2 M hF
    rw [L_X5_findFalls_29.eq_2] at hF
    refine jr_iload_n 2 dX5_findFalls_29 rfl rfl rfl ?_
    refine jr_iload_n 1 dX5_findFalls_30 rfl rfl rfl ?_
    refine jr_icmp_ge 96 dX5_findFalls_31 (by decide) rfl (fun c1 => ?_) (fun c1 => ?_)
    · have hF := jif_p hF c1
      refine jr_sub [0] rfl ?_
      exact hk M hF
    · have hF := jif_n hF c1
      refine jr_aload_n 0 dX5_findFalls_34 rfl rfl rfl ?_
      refine gf_X5_48 rfl rfl (hB 0 (by decide)) dX5_findFalls_35 rfl ?_
      refine jr_iload_n 1 dX5_findFalls_38 rfl rfl rfl ?_
      refine jr_iconst (v := 1) dX5_findFalls_39 (by decide) rfl ?_
      refine jr_isub dX5_findFalls_40 rfl ?_
      refine jr_iload_n 2 dX5_findFalls_41 rfl rfl rfl ?_
      refine jr_isub dX5_findFalls_42 rfl ?_
      refine pf_X5_141 rfl rfl (hB 6 (by decide)) dX5_findFalls_43 ⟨rfl, rfl⟩ rfl (fun M_3 eM_3 => ?_)
      have hF := jlet_e hF M_3 eM_3
      refine jr_aload_n 0 dX5_findFalls_46 rfl rfl rfl ?_
      refine gf_X5_51 rfl rfl (hB 0 (by decide)) dX5_findFalls_47 rfl ?_
      refine jr_aload_n 0 dX5_findFalls_50 rfl rfl rfl ?_
      refine gf_X5_48 rfl rfl (hB 0 (by decide)) dX5_findFalls_51 rfl ?_
      refine jr_bipush (v := 39) dX5_findFalls_54 (by decide) rfl ?_
      refine jr_iconst (v := 1) dX5_findFalls_56 (by decide) rfl ?_
      obtain ⟨r_3, M_4, hc_3, hF⟩ := jbd_e hF
      refine jh_callV0 (o := 7) (as := [.ref (ja E 6 0), .int 39, .int 1]) (st := []) (JF_X0_run hB (Or.inr rfl) (Or.inr rfl) hc_3) cw_X5_204 (iv_X0_run) ⟨rfl, rfl, by decide, by decide⟩ rfl (hB 7 (by decide)) rfl rfl (Nat.le_of_ble_eq_true rfl) dX5_findFalls_57 rfl ?_
      refine jr_aload_n 0 dX5_findFalls_60 rfl rfl rfl ?_
      refine gf_X5_54 rfl rfl (hB 0 (by decide)) dX5_findFalls_61 rfl ?_
      refine jr_iload_n 2 dX5_findFalls_64 rfl rfl rfl ?_
      refine jr_aload_n 0 dX5_findFalls_65 rfl rfl rfl ?_
      refine gf_X5_51 rfl rfl (hB 0 (by decide)) dX5_findFalls_66 rfl ?_
      refine gf_X5_208 rfl rfl (hB 7 (by decide)) dX5_findFalls_69 rfl ?_
      refine jr_if_le 87 dX5_findFalls_72 (by decide) rfl (fun c1 => ?_) (fun c1 => ?_)
      · have hF := jif_p hF c1
        refine jr_bipush (v := 40) dX5_findFalls_87 (by decide) rfl ?_
        obtain ⟨hb_1, hF⟩ := jck_e hF
        refine jh_iast (ci := 5) (k := 7) rfl (hB 0 (by decide)) (by decide) rfl rfl hb_1 dX5_findFalls_89 rfl (fun M_5 eM_5 => ?_)
        have hF := jlet_e hF M_5 eM_5
        obtain ⟨x2_1, ex2_1⟩ : ∃ z : Int32, z = z2 + 1 := ⟨_, rfl⟩
        have hF := jlet_e hF x2_1 ex2_1
        refine jr_iinc (v := x2_1) (L' := [(2, .int x2_1), (0, .ref (ja E 0 0)), (1, .int y1)]) 2 dX5_findFalls_90 rfl (by rw [ex2_1]; rfl) (by decide) rfl rfl ?_
        refine jr_goto 29 dX5_findFalls_93 (by decide) ?_
        refine jr_sub [1, 2, 0] rfl ?_
        exact ih x2_1 M_5 hF
      · have hF := jif_n hF c1
        refine jr_aload_n 0 dX5_findFalls_75 rfl rfl rfl ?_
        refine gf_X5_51 rfl rfl (hB 0 (by decide)) dX5_findFalls_76 rfl ?_
        refine gf_X5_261 rfl rfl (hB 7 (by decide)) dX5_findFalls_79 rfl ?_
        refine jr_iconst (v := 1) dX5_findFalls_82 (by decide) rfl ?_
        refine jr_isub dX5_findFalls_83 rfl ?_
        refine jr_goto 89 dX5_findFalls_84 (by decide) ?_
        obtain ⟨hb_2, hF⟩ := jck_e hF
        refine jh_iast (ci := 5) (k := 7) rfl (hB 0 (by decide)) (by decide) rfl rfl hb_2 dX5_findFalls_89 rfl (fun M_6 eM_6 => ?_)
        have hF := jlet_e hF M_6 eM_6
        obtain ⟨x2_2, ex2_2⟩ : ∃ z : Int32, z = z2 + 1 := ⟨_, rfl⟩
        have hF := jlet_e hF x2_2 ex2_2
        refine jr_iinc (v := x2_2) (L' := [(2, .int x2_2), (0, .ref (ja E 0 0)), (1, .int y1)]) 2 dX5_findFalls_90 rfl (by rw [ex2_2]; rfl) (by decide) rfl rfl ?_
        refine jr_goto 29 dX5_findFalls_93 (by decide) ?_
        refine jr_sub [1, 2, 0] rfl ?_
        exact ih x2_2 M_6 hF
set_option maxHeartbeats 4000000 in
set_option maxRecDepth 100000 in
theorem JF_X5_findFalls {E : jx_E} (hB : ∀ o, o < 8 → jB E o) {M : jx_M} {r : Unit} {M' : jx_M} (hF : F_X5_findFalls  M = some (r, M')) : jC E yX5_findFalls cX5_findFalls 3 none rm_X5_findFalls [.ref (ja E 0 0)] M (fun x M'' => x = none ∧ M'' = M') := by
  refine jC.ofJ (L := [(0, .ref (ja E 0 0))]) (by decide +kernel) (Nat.le_of_ble_eq_true rfl) rfl ?_
  unfold F_X5_findFalls at hF
  refine jr_aload_n 0 dX5_findFalls_0 rfl rfl rfl ?_
  refine gf_X5_62 rfl rfl (hB 0 (by decide)) dX5_findFalls_1 rfl ?_
  refine jr_if_eq 8 dX5_findFalls_4 (by decide) rfl (fun c1 => ?_) (fun c1 => ?_)
  · have hF := jif_p hF c1
    refine jr_aload_n 0 dX5_findFalls_8 rfl rfl rfl ?_
    refine gf_X5_48 rfl rfl (hB 0 (by decide)) dX5_findFalls_9 rfl ?_
    refine jr_aload_n 0 dX5_findFalls_12 rfl rfl rfl ?_
    refine gf_X5_28 rfl rfl (hB 0 (by decide)) dX5_findFalls_13 rfl ?_
    obtain ⟨r_1, M_1, hc_1, hF⟩ := jbd_e hF
    refine jh_callV0 (o := 6) (as := [.ref (ja E 3 0)]) (st := []) (JF_X2_takeOver hB (Or.inr rfl) (Or.inl rfl) hc_1) cw_X5_214 (iv_X2_takeOver) ⟨rfl, rfl, by decide, by decide⟩ rfl (hB 6 (by decide)) rfl rfl (Nat.le_of_ble_eq_true rfl) dX5_findFalls_16 rfl ?_
    refine jr_aload_n 0 dX5_findFalls_19 rfl rfl rfl ?_
    refine gf_X5_21 rfl rfl (hB 0 (by decide)) dX5_findFalls_20 rfl ?_
    obtain ⟨r_2, M_2, hc_2, hF⟩ := jbd_e hF
    refine jh_callV1 (v := .int r_2) (o := 2) (as := []) (st := []) (JF_X1_setCount hB hc_2) cw_X5_189 (iv_X1_setCount) ⟨rfl, rfl, by decide, by decide⟩ rfl (hB 2 (by decide)) rfl rfl (Nat.le_of_ble_eq_true rfl) dX5_findFalls_23 rfl ?_
    refine jr_istore_n (L' := [(1, .int r_2), (0, .ref (ja E 0 0))]) dX5_findFalls_26 rfl (by decide) rfl rfl ?_
    refine jr_iconst (v := 0) dX5_findFalls_27 (by decide) rfl ?_
    refine jr_istore_n (L' := [(2, .int 0), (1, .int r_2), (0, .ref (ja E 0 0))]) dX5_findFalls_28 rfl (by decide) rfl rfl ?_
    refine jr_sub [2, 1, 0] rfl ?_
    refine JL_X5_findFalls_29 hB (fun M_7 hF => ?_) jfu 0 M_2 hF
    refine jr_aload_n 0 dX5_findFalls_96 rfl rfl rfl ?_
    refine jr_iconst (v := 1) dX5_findFalls_97 (by decide) rfl ?_
    refine pf_X5_62 rfl rfl (hB 0 (by decide)) dX5_findFalls_98 (by decide) rfl (fun M_8 eM_8 => ?_)
    have hF := jlet_e hF M_8 eM_8
    exact jh_vret rfl dX5_findFalls_101 hF
  · have hF := jif_n hF c1
    exact jh_vret rfl dX5_findFalls_7 hF
set_option maxHeartbeats 4000000 in
set_option maxRecDepth 100000 in
theorem JL_X5_fewest_33 {E : jx_E} (hB : ∀ o, o < 8 → jB E o) {y1 : Int32} {k : Int32 → jx_M → Option (Int32 × jx_M)} {r : Int32} {M' : jx_M} (hk : ∀ (z2 : Int32) (M : jx_M), k z2 M = some (r, M') → jJ E yX5_fewest cX5_fewest 5 (some FieldType.int) rm_X5_fewest (fun x M'' => x = some (.int r) ∧ M'' = M') 80 [(2, .int z2)] [] M) : ∀ (n : Nat) (z2 : Int32) (z3 : Int32) (z4 : Int32) (M : jx_M), L_X5_fewest_33 y1 k n z2 z3 z4 M = some (r, M') → jJ E yX5_fewest cX5_fewest 5 (some FieldType.int) rm_X5_fewest (fun x M'' => x = some (.int r) ∧ M'' = M') 33 [(0, .ref (ja E 0 0)), (1, .int y1), (2, .int z2), (3, .int z3), (4, .int z4)] [] M := by
  intro n
  induction n with
  | zero => intro z2 z3 z4 M hF; exact nomatch (show (none : Option (Int32 × jx_M)) = some _ from hF)
  | succ n ih =>
    intro z2 z3 z4 M hF
    rw [L_X5_fewest_33.eq_2] at hF
    refine jr_iload 4 dX5_fewest_33 rfl rfl ?_
    refine jr_aload_n 0 dX5_fewest_35 rfl rfl rfl ?_
    refine gf_X5_21 rfl rfl (hB 0 (by decide)) dX5_fewest_36 rfl ?_
    obtain ⟨r_4, M_4, hc_4, hF⟩ := jbd_e hF
    refine jh_callV1 (v := .int r_4) (o := 2) (as := []) (st := [.int z4]) (JF_X1_setCount hB hc_4) cw_X5_189 (iv_X1_setCount) ⟨rfl, rfl, by decide, by decide⟩ rfl (hB 2 (by decide)) rfl rfl (Nat.le_of_ble_eq_true rfl) dX5_fewest_39 rfl ?_
    refine jr_icmp_ge 80 dX5_fewest_42 (by decide) rfl (fun c1 => ?_) (fun c1 => ?_)
    · have hF := jif_p hF c1
      refine jr_sub [2] rfl ?_
      exact hk z2 M_4 hF
    · have hF := jif_n hF c1
      refine jr_aload_n 0 dX5_fewest_45 rfl rfl rfl ?_
      refine gf_X5_54 rfl rfl (hB 0 (by decide)) dX5_fewest_46 rfl ?_
      refine jr_iload 4 dX5_fewest_49 rfl rfl ?_
      obtain ⟨hb_1, hF⟩ := jck_e hF
      refine jh_iald (ci := 5) (k := 7) rfl (hB 0 (by decide)) (by decide) rfl rfl hb_1 dX5_fewest_51 rfl ?_
      refine jr_iload_n 1 dX5_fewest_52 rfl rfl rfl ?_
      refine jr_icmp_le 74 dX5_fewest_53 (by decide) rfl (fun c1 => ?_) (fun c1 => ?_)
      · have hF := jif_p hF c1
        obtain ⟨x4_1, ex4_1⟩ : ∃ z : Int32, z = z4 + 1 := ⟨_, rfl⟩
        have hF := jlet_e hF x4_1 ex4_1
        refine jr_iinc (v := x4_1) (L' := [(4, .int x4_1), (0, .ref (ja E 0 0)), (1, .int y1), (2, .int z2), (3, .int z3)]) 4 dX5_fewest_74 rfl (by rw [ex4_1]; rfl) (by decide) rfl rfl ?_
        refine jr_goto 33 dX5_fewest_77 (by decide) ?_
        refine jr_sub [1, 2, 3, 4, 0] rfl ?_
        exact ih z2 z3 x4_1 M_4 hF
      · have hF := jif_n hF c1
        refine jr_iload 4 dX5_fewest_56 rfl rfl ?_
        obtain ⟨r_5, M_5, hc_5, hF⟩ := jbd_e hF
        refine jh_callS1 (v := .int r_5) (as := [.int z4]) (st := []) (JF_J6_bitCount_0f7a4  hc_5) cw_X5_193 (iv_J6_bitCount_0f7a4) ⟨rfl, rfl, by decide, by decide⟩ rfl rfl (Nat.le_of_ble_eq_true rfl) dX5_fewest_58 rfl ?_
        refine jr_iload_n 3 dX5_fewest_61 rfl rfl rfl ?_
        refine jr_icmp_ge 74 dX5_fewest_62 (by decide) rfl (fun c1 => ?_) (fun c1 => ?_)
        · have hF := jif_p hF c1
          obtain ⟨x4_2, ex4_2⟩ : ∃ z : Int32, z = z4 + 1 := ⟨_, rfl⟩
          have hF := jlet_e hF x4_2 ex4_2
          refine jr_iinc (v := x4_2) (L' := [(4, .int x4_2), (0, .ref (ja E 0 0)), (1, .int y1), (2, .int z2), (3, .int z3)]) 4 dX5_fewest_74 rfl (by rw [ex4_2]; rfl) (by decide) rfl rfl ?_
          refine jr_goto 33 dX5_fewest_77 (by decide) ?_
          refine jr_sub [1, 2, 3, 4, 0] rfl ?_
          exact ih z2 z3 x4_2 M_5 hF
        · have hF := jif_n hF c1
          refine jr_iload 4 dX5_fewest_65 rfl rfl ?_
          refine jr_istore_n (L' := [(2, .int z4), (0, .ref (ja E 0 0)), (1, .int y1), (3, .int z3), (4, .int z4)]) dX5_fewest_67 rfl (by decide) rfl rfl ?_
          refine jr_iload 4 dX5_fewest_68 rfl rfl ?_
          obtain ⟨r_6, M_6, hc_6, hF⟩ := jbd_e hF
          refine jh_callS1 (v := .int r_6) (as := [.int z4]) (st := []) (JF_J6_bitCount_0f7a4  hc_6) cw_X5_193 (iv_J6_bitCount_0f7a4) ⟨rfl, rfl, by decide, by decide⟩ rfl rfl (Nat.le_of_ble_eq_true rfl) dX5_fewest_70 rfl ?_
          refine jr_istore_n (L' := [(3, .int r_6), (2, .int z4), (0, .ref (ja E 0 0)), (1, .int y1), (4, .int z4)]) dX5_fewest_73 rfl (by decide) rfl rfl ?_
          obtain ⟨x4_3, ex4_3⟩ : ∃ z : Int32, z = z4 + 1 := ⟨_, rfl⟩
          have hF := jlet_e hF x4_3 ex4_3
          refine jr_iinc (v := x4_3) (L' := [(4, .int x4_3), (3, .int r_6), (2, .int z4), (0, .ref (ja E 0 0)), (1, .int y1)]) 4 dX5_fewest_74 rfl (by rw [ex4_3]; rfl) (by decide) rfl rfl ?_
          refine jr_goto 33 dX5_fewest_77 (by decide) ?_
          refine jr_sub [3, 4, 2, 1, 0] rfl ?_
          exact ih z4 r_6 x4_3 M_6 hF
set_option maxHeartbeats 4000000 in
set_option maxRecDepth 100000 in
theorem JF_X5_fewest {E : jx_E} (hB : ∀ o, o < 8 → jB E o) {a1 : Int32} {M : jx_M} {r : Int32} {M' : jx_M} (hF : F_X5_fewest a1 M = some (r, M')) : jC E yX5_fewest cX5_fewest 5 (some FieldType.int) rm_X5_fewest [.ref (ja E 0 0), .int a1] M (fun x M'' => x = some (.int r) ∧ M'' = M') := by
  refine jC.ofJ (L := [(0, .ref (ja E 0 0)), (1, .int a1)]) (by decide +kernel) (Nat.le_of_ble_eq_true rfl) rfl ?_
  unfold F_X5_fewest at hF
  refine jr_iload_n 1 dX5_fewest_0 rfl rfl rfl ?_
  obtain ⟨r_1, M_1, hc_1, hF⟩ := jbd_e hF
  refine jh_callS1 (v := .int r_1) (as := [.int a1]) (st := []) (JF_X5_isDecade hB hc_1) cw_X5_154 (iv_X5_isDecade) ⟨rfl, rfl, by decide, by decide⟩ rfl rfl (Nat.le_of_ble_eq_true rfl) dX5_fewest_1 rfl ?_
  refine jr_if_ne 10 dX5_fewest_4 (by decide) rfl (fun c1 => ?_) (fun c1 => ?_)
  · have hF := jif_n hF c1
    refine jr_aload_n 0 dX5_fewest_10 rfl rfl rfl ?_
    obtain ⟨r_2, M_2, hc_2, hF⟩ := jbd_e hF
    refine jh_callV1 (v := .int r_2) (o := 0) (as := []) (st := []) (JF_X5_isLand hB hc_2) cw_X5_144 (iv_X5_isLand) ⟨rfl, rfl, by decide, by decide⟩ rfl (hB 0 (by decide)) rfl rfl (Nat.le_of_ble_eq_true rfl) dX5_fewest_11 rfl ?_
    refine jr_if_ne 20 dX5_fewest_14 (by decide) rfl (fun c1 => ?_) (fun c1 => ?_)
    · have hF := jif_n hF c1
      refine jr_aload_n 0 dX5_fewest_20 rfl rfl rfl ?_
      obtain ⟨r_3, M_3, hc_3, hF⟩ := jbd_e hF
      refine jh_callV0 (o := 0) (as := []) (st := []) (JF_X5_findFalls hB hc_3) cw_X5_186 (iv_X5_findFalls) ⟨rfl, rfl, by decide, by decide⟩ rfl (hB 0 (by decide)) rfl rfl (Nat.le_of_ble_eq_true rfl) dX5_fewest_21 rfl ?_
      refine jr_bipush (v := (-9)) dX5_fewest_24 (by decide) rfl ?_
      refine jr_istore_n (L' := [(2, .int (-9)), (0, .ref (ja E 0 0)), (1, .int a1)]) dX5_fewest_26 rfl (by decide) rfl rfl ?_
      refine jr_bipush (v := 7) dX5_fewest_27 (by decide) rfl ?_
      refine jr_istore_n (L' := [(3, .int 7), (2, .int (-9)), (0, .ref (ja E 0 0)), (1, .int a1)]) dX5_fewest_29 rfl (by decide) rfl rfl ?_
      refine jr_iconst (v := 0) dX5_fewest_30 (by decide) rfl ?_
      refine jr_istore (L' := [(4, .int 0), (3, .int 7), (2, .int (-9)), (0, .ref (ja E 0 0)), (1, .int a1)]) dX5_fewest_31 (by decide) rfl rfl ?_
      refine jr_sub [3, 4, 2, 1, 0] rfl ?_
      refine JL_X5_fewest_33 hB (fun x2_1 M_7 hF => ?_) jfu (-9) 7 0 M_3 hF
      refine jr_iload_n 0 dX5_fewest_80 rfl rfl rfl ?_
      exact jh_iret rfl dX5_fewest_81 hF
    · have hF := jif_p hF c1
      refine jr_bipush (v := (-3)) dX5_fewest_17 (by decide) rfl ?_
      exact jh_iret rfl dX5_fewest_19 hF
  · have hF := jif_p hF c1
    refine jr_bipush (v := (-2)) dX5_fewest_7 (by decide) rfl ?_
    exact jh_iret rfl dX5_fewest_9 hF
set_option maxHeartbeats 4000000 in
set_option maxRecDepth 100000 in
theorem JF_X5_tryWill {E : jx_E} (hB : ∀ o, o < 8 → jB E o) {a1 : Int32} {a2 : Int32} {a3 : Int32} {M : jx_M} {r : Unit} {M' : jx_M} (hF : F_X5_tryWill a1 a2 a3 M = some (r, M')) : jC E yX5_tryWill cX5_tryWill 4 none rm_X5_tryWill [.ref (ja E 0 0), .int a1, .int a2, .int a3] M (fun x M'' => x = none ∧ M'' = M') := by
  refine jC.ofJ (L := [(0, .ref (ja E 0 0)), (1, .int a1), (2, .int a2), (3, .int a3)]) (by decide +kernel) (Nat.le_of_ble_eq_true rfl) rfl ?_
  unfold F_X5_tryWill at hF
  refine jr_aload_n 0 dX5_tryWill_0 rfl rfl rfl ?_
  refine gf_X5_48 rfl rfl (hB 0 (by decide)) dX5_tryWill_1 rfl ?_
  refine jr_aload_n 0 dX5_tryWill_4 rfl rfl rfl ?_
  refine gf_X5_28 rfl rfl (hB 0 (by decide)) dX5_tryWill_5 rfl ?_
  obtain ⟨r_1, M_1, hc_1, hF⟩ := jbd_e hF
  refine jh_callV0 (o := 6) (as := [.ref (ja E 3 0)]) (st := []) (JF_X2_takeOver hB (Or.inr rfl) (Or.inl rfl) hc_1) cw_X5_214 (iv_X2_takeOver) ⟨rfl, rfl, by decide, by decide⟩ rfl (hB 6 (by decide)) rfl rfl (Nat.le_of_ble_eq_true rfl) dX5_tryWill_8 rfl ?_
  refine jr_aload_n 0 dX5_tryWill_11 rfl rfl rfl ?_
  refine gf_X5_48 rfl rfl (hB 0 (by decide)) dX5_tryWill_12 rfl ?_
  refine jr_iload_n 1 dX5_tryWill_15 rfl rfl rfl ?_
  refine jr_iload_n 2 dX5_tryWill_16 rfl rfl rfl ?_
  refine jr_iload_n 3 dX5_tryWill_17 rfl rfl rfl ?_
  obtain ⟨r_2, M_2, hc_2, hF⟩ := jbd_e hF
  refine jh_callV0 (o := 6) (as := [.int a1, .int a2, .int a3]) (st := []) (JF_X2_addWill hB (Or.inr rfl) hc_2) cw_X5_160 (iv_X2_addWill) ⟨rfl, rfl, by decide, by decide⟩ rfl (hB 6 (by decide)) rfl rfl (Nat.le_of_ble_eq_true rfl) dX5_tryWill_18 rfl ?_
  refine jr_aload_n 0 dX5_tryWill_21 rfl rfl rfl ?_
  refine gf_X5_51 rfl rfl (hB 0 (by decide)) dX5_tryWill_22 rfl ?_
  refine jr_aload_n 0 dX5_tryWill_25 rfl rfl rfl ?_
  refine gf_X5_48 rfl rfl (hB 0 (by decide)) dX5_tryWill_26 rfl ?_
  refine jr_bipush (v := 39) dX5_tryWill_29 (by decide) rfl ?_
  refine jr_aload_n 0 dX5_tryWill_31 rfl rfl rfl ?_
  refine gf_X5_72 rfl rfl (hB 0 (by decide)) dX5_tryWill_32 rfl ?_
  obtain ⟨r_3, M_3, hc_3, hF⟩ := jbd_e hF
  refine jh_callV0 (o := 7) (as := [.ref (ja E 6 0), .int 39, .int (M_2 0 12 0)]) (st := []) (JF_X0_run hB (Or.inr rfl) (Or.inr rfl) hc_3) cw_X5_204 (iv_X0_run) ⟨rfl, rfl, by decide, by decide⟩ rfl (hB 7 (by decide)) rfl rfl (Nat.le_of_ble_eq_true rfl) dX5_tryWill_35 rfl ?_
  refine jr_aload_n 0 dX5_tryWill_38 rfl rfl rfl ?_
  refine gf_X5_51 rfl rfl (hB 0 (by decide)) dX5_tryWill_39 rfl ?_
  refine gf_X5_208 rfl rfl (hB 7 (by decide)) dX5_tryWill_42 rfl ?_
  refine jr_aload_n 0 dX5_tryWill_45 rfl rfl rfl ?_
  refine gf_X5_72 rfl rfl (hB 0 (by decide)) dX5_tryWill_46 rfl ?_
  refine jr_icmp_ge 79 dX5_tryWill_49 (by decide) rfl (fun c1 => ?_) (fun c1 => ?_)
  · have hF := jif_p hF c1
    exact jh_vret rfl dX5_tryWill_79 hF
  · have hF := jif_n hF c1
    refine jr_aload_n 0 dX5_tryWill_52 rfl rfl rfl ?_
    refine jr_aload_n 0 dX5_tryWill_53 rfl rfl rfl ?_
    refine gf_X5_51 rfl rfl (hB 0 (by decide)) dX5_tryWill_54 rfl ?_
    refine gf_X5_208 rfl rfl (hB 7 (by decide)) dX5_tryWill_57 rfl ?_
    refine pf_X5_72 rfl rfl (hB 0 (by decide)) dX5_tryWill_60 ⟨rfl, rfl⟩ rfl (fun M_4 eM_4 => ?_)
    have hF := jlet_e hF M_4 eM_4
    refine jr_aload_n 0 dX5_tryWill_63 rfl rfl rfl ?_
    refine jr_sipush (v := 1000) dX5_tryWill_64 (by decide) rfl ?_
    refine jr_iload_n 1 dX5_tryWill_67 rfl rfl rfl ?_
    refine jr_imul dX5_tryWill_68 rfl ?_
    refine jr_bipush (v := 100) dX5_tryWill_69 (by decide) rfl ?_
    refine jr_iload_n 2 dX5_tryWill_71 rfl rfl rfl ?_
    refine jr_imul dX5_tryWill_72 rfl ?_
    refine jr_iadd dX5_tryWill_73 rfl ?_
    refine jr_iload_n 3 dX5_tryWill_74 rfl rfl rfl ?_
    refine jr_iadd dX5_tryWill_75 rfl ?_
    refine pf_X5_68 rfl rfl (hB 0 (by decide)) dX5_tryWill_76 ⟨rfl, rfl⟩ rfl (fun M_5 eM_5 => ?_)
    have hF := jlet_e hF M_5 eM_5
    exact jh_vret rfl dX5_tryWill_79 hF
set_option maxHeartbeats 4000000 in
set_option maxRecDepth 100000 in
theorem JL_X5_findHelp_56 {E : jx_E} (hB : ∀ o, o < 8 → jB E o) {y2 : Int32} {y3 : Int32} {k : jx_M → Option (Unit × jx_M)} {r : Unit} {M' : jx_M} (hk : ∀ (M : jx_M), k M = some (r, M') → jJ E yX5_findHelp cX5_findHelp 5 none rm_X5_findHelp (fun x M'' => x = none ∧ M'' = M') 88 [(0, .ref (ja E 0 0)), (1, .ref (ja E 5 0)), (2, .int y2), (3, .int y3)] [] M) : ∀ (n : Nat) (z4 : Int32) (M : jx_M), L_X5_findHelp_56 y2 y3 k n z4 M = some (r, M') → jJ E yX5_findHelp cX5_findHelp 5 none rm_X5_findHelp (fun x M'' => x = none ∧ M'' = M') 56 [(0, .ref (ja E 0 0)), (1, .ref (ja E 5 0)), (2, .int y2), (3, .int y3), (4, .int z4)] [] M := by
  intro n
  induction n with
  | zero => intro z4 M hF; exact nomatch (show (none : Option (Unit × jx_M)) = some _ from hF)
  | succ n ih =>
    intro z4 M hF
    rw [L_X5_findHelp_56.eq_2] at hF
    refine jr_iload 4 dX5_findHelp_56 rfl rfl ?_
    refine jr_bipush (v := 40) dX5_findHelp_58 (by decide) rfl ?_
    refine jr_icmp_ge 88 dX5_findHelp_60 (by decide) rfl (fun c1 => ?_) (fun c1 => ?_)
    · have hF := jif_p hF c1
      refine jr_sub [0, 1, 2, 3] rfl ?_
      exact hk M hF
    · have hF := jif_n hF c1
      refine jr_aload_n 1 dX5_findHelp_63 rfl rfl rfl ?_
      refine jr_iload_n 2 dX5_findHelp_64 rfl rfl rfl ?_
      refine jr_iload_n 3 dX5_findHelp_65 rfl rfl rfl ?_
      refine jr_iload 4 dX5_findHelp_66 rfl rfl ?_
      obtain ⟨r_2, M_4, hc_2, hF⟩ := jbd_e hF
      refine jh_callV1 (v := .int r_2) (o := 5) (as := [.int y2, .int y3, .int z4]) (st := []) (JF_X0_wouldTurn hB (Or.inl rfl) hc_2) cw_X5_264 (iv_X0_wouldTurn) ⟨rfl, rfl, by decide, by decide⟩ rfl (hB 5 (by decide)) rfl rfl (Nat.le_of_ble_eq_true rfl) dX5_findHelp_68 rfl ?_
      refine jr_if_eq 82 dX5_findHelp_71 (by decide) rfl (fun c1 => ?_) (fun c1 => ?_)
      · have hF := jif_p hF c1
        obtain ⟨x4_1, ex4_1⟩ : ∃ z : Int32, z = z4 + 1 := ⟨_, rfl⟩
        have hF := jlet_e hF x4_1 ex4_1
        refine jr_iinc (v := x4_1) (L' := [(4, .int x4_1), (0, .ref (ja E 0 0)), (1, .ref (ja E 5 0)), (2, .int y2), (3, .int y3)]) 4 dX5_findHelp_82 rfl (by rw [ex4_1]; rfl) (by decide) rfl rfl ?_
        refine jr_goto 56 dX5_findHelp_85 (by decide) ?_
        refine jr_sub [1, 2, 3, 4, 0] rfl ?_
        exact ih x4_1 M_4 hF
      · have hF := jif_n hF c1
        refine jr_aload_n 0 dX5_findHelp_74 rfl rfl rfl ?_
        refine jr_iload_n 2 dX5_findHelp_75 rfl rfl rfl ?_
        refine jr_iload_n 3 dX5_findHelp_76 rfl rfl rfl ?_
        refine jr_iload 4 dX5_findHelp_77 rfl rfl ?_
        obtain ⟨r_3, M_5, hc_3, hF⟩ := jbd_e hF
        refine jh_callV0 (o := 0) (as := [.int y2, .int y3, .int z4]) (st := []) (JF_X5_tryWill hB hc_3) cw_X5_267 (iv_X5_tryWill) ⟨rfl, rfl, by decide, by decide⟩ rfl (hB 0 (by decide)) rfl rfl (Nat.le_of_ble_eq_true rfl) dX5_findHelp_79 rfl ?_
        obtain ⟨x4_2, ex4_2⟩ : ∃ z : Int32, z = z4 + 1 := ⟨_, rfl⟩
        have hF := jlet_e hF x4_2 ex4_2
        refine jr_iinc (v := x4_2) (L' := [(4, .int x4_2), (0, .ref (ja E 0 0)), (1, .ref (ja E 5 0)), (2, .int y2), (3, .int y3)]) 4 dX5_findHelp_82 rfl (by rw [ex4_2]; rfl) (by decide) rfl rfl ?_
        refine jr_goto 56 dX5_findHelp_85 (by decide) ?_
        refine jr_sub [1, 2, 3, 4, 0] rfl ?_
        exact ih x4_2 M_5 hF
set_option maxHeartbeats 4000000 in
set_option maxRecDepth 100000 in
theorem JL_X5_findHelp_42 {E : jx_E} (hB : ∀ o, o < 8 → jB E o) {y2 : Int32} {k : jx_M → Option (Unit × jx_M)} {r : Unit} {M' : jx_M} (hk : ∀ (M : jx_M), k M = some (r, M') → jJ E yX5_findHelp cX5_findHelp 5 none rm_X5_findHelp (fun x M'' => x = none ∧ M'' = M') 94 [(0, .ref (ja E 0 0)), (1, .ref (ja E 5 0)), (2, .int y2)] [] M) : ∀ (n : Nat) (z3 : Int32) (M : jx_M), L_X5_findHelp_42 y2 k n z3 M = some (r, M') → jJ E yX5_findHelp cX5_findHelp 5 none rm_X5_findHelp (fun x M'' => x = none ∧ M'' = M') 42 [(0, .ref (ja E 0 0)), (1, .ref (ja E 5 0)), (2, .int y2), (3, .int z3)] [] M := by
  intro n
  induction n with
  | zero => intro z3 M hF; exact nomatch (show (none : Option (Unit × jx_M)) = some _ from hF)
  | succ n ih =>
    intro z3 M hF
    rw [L_X5_findHelp_42.eq_2] at hF
    refine jr_iload_n 3 dX5_findHelp_42 rfl rfl rfl ?_
    refine jr_aload_n 0 dX5_findHelp_43 rfl rfl rfl ?_
    refine gf_X5_21 rfl rfl (hB 0 (by decide)) dX5_findHelp_44 rfl ?_
    refine gf_X5_117 rfl rfl (hB 2 (by decide)) dX5_findHelp_47 rfl ?_
    refine jr_icmp_ge 94 dX5_findHelp_50 (by decide) rfl (fun c1 => ?_) (fun c1 => ?_)
    · have hF := jif_p hF c1
      refine jr_sub [0, 1, 2] rfl ?_
      exact hk M hF
    · have hF := jif_n hF c1
      refine jr_iconst (v := 0) dX5_findHelp_53 (by decide) rfl ?_
      refine jr_istore (L' := [(4, .int 0), (0, .ref (ja E 0 0)), (1, .ref (ja E 5 0)), (2, .int y2), (3, .int z3)]) dX5_findHelp_54 (by decide) rfl rfl ?_
      refine jr_sub [1, 2, 3, 4, 0] rfl ?_
      refine JL_X5_findHelp_56 hB (fun M_6 hF => ?_) jfu 0 M hF
      obtain ⟨x3_1, ex3_1⟩ : ∃ z : Int32, z = z3 + 1 := ⟨_, rfl⟩
      have hF := jlet_e hF x3_1 ex3_1
      refine jr_iinc (v := x3_1) (L' := [(3, .int x3_1), (0, .ref (ja E 0 0)), (1, .ref (ja E 5 0)), (2, .int y2)]) 3 dX5_findHelp_88 rfl (by rw [ex3_1]; rfl) (by decide) rfl rfl ?_
      refine jr_goto 42 dX5_findHelp_91 (by decide) ?_
      refine jr_sub [1, 2, 3, 0] rfl ?_
      exact ih x3_1 M_6 hF
set_option maxHeartbeats 4000000 in
set_option maxRecDepth 100000 in
theorem JL_X5_findHelp_29 {E : jx_E} (hB : ∀ o, o < 8 → jB E o) {k : jx_M → Option (Unit × jx_M)} {r : Unit} {M' : jx_M} (hk : ∀ (M : jx_M), k M = some (r, M') → jJ E yX5_findHelp cX5_findHelp 5 none rm_X5_findHelp (fun x M'' => x = none ∧ M'' = M') 100 [(0, .ref (ja E 0 0))] [] M) : ∀ (n : Nat) (z2 : Int32) (M : jx_M), L_X5_findHelp_29 k n z2 M = some (r, M') → jJ E yX5_findHelp cX5_findHelp 5 none rm_X5_findHelp (fun x M'' => x = none ∧ M'' = M') 29 [(0, .ref (ja E 0 0)), (1, .ref (ja E 5 0)), (2, .int z2)] [] M := by
  intro n
  induction n with
  | zero => intro z2 M hF; exact nomatch (show (none : Option (Unit × jx_M)) = some _ from hF)
  | succ n ih =>
    intro z2 M hF
    rw [L_X5_findHelp_29.eq_2] at hF
    refine jr_iload_n 2 dX5_findHelp_29 rfl rfl rfl ?_
    refine jr_aload_n 0 dX5_findHelp_30 rfl rfl rfl ?_
    refine gf_X5_21 rfl rfl (hB 0 (by decide)) dX5_findHelp_31 rfl ?_
    refine gf_X5_221 rfl rfl (hB 2 (by decide)) dX5_findHelp_34 rfl ?_
    refine jr_icmp_ge 100 dX5_findHelp_37 (by decide) rfl (fun c1 => ?_) (fun c1 => ?_)
    · have hF := jif_p hF c1
      refine jr_sub [0] rfl ?_
      exact hk M hF
    · have hF := jif_n hF c1
      refine jr_iconst (v := 0) dX5_findHelp_40 (by decide) rfl ?_
      refine jr_istore_n (L' := [(3, .int 0), (0, .ref (ja E 0 0)), (1, .ref (ja E 5 0)), (2, .int z2)]) dX5_findHelp_41 rfl (by decide) rfl rfl ?_
      refine jr_sub [1, 2, 3, 0] rfl ?_
      refine JL_X5_findHelp_42 hB (fun M_7 hF => ?_) jfu 0 M hF
      obtain ⟨x2_1, ex2_1⟩ : ∃ z : Int32, z = z2 + 1 := ⟨_, rfl⟩
      have hF := jlet_e hF x2_1 ex2_1
      refine jr_iinc (v := x2_1) (L' := [(2, .int x2_1), (0, .ref (ja E 0 0)), (1, .ref (ja E 5 0))]) 2 dX5_findHelp_94 rfl (by rw [ex2_1]; rfl) (by decide) rfl rfl ?_
      refine jr_goto 29 dX5_findHelp_97 (by decide) ?_
      refine jr_sub [1, 2, 0] rfl ?_
      exact ih x2_1 M_7 hF
set_option maxHeartbeats 4000000 in
set_option maxRecDepth 100000 in
theorem JF_X5_findHelp {E : jx_E} (hB : ∀ o, o < 8 → jB E o) {M : jx_M} {r : Unit} {M' : jx_M} (hF : F_X5_findHelp  M = some (r, M')) : jC E yX5_findHelp cX5_findHelp 5 none rm_X5_findHelp [.ref (ja E 0 0)] M (fun x M'' => x = none ∧ M'' = M') := by
  refine jC.ofJ (L := [(0, .ref (ja E 0 0))]) (by decide +kernel) (Nat.le_of_ble_eq_true rfl) rfl ?_
  unfold F_X5_findHelp at hF
  refine jr_aload_n 0 dX5_findHelp_0 rfl rfl rfl ?_
  refine gf_X5_65 rfl rfl (hB 0 (by decide)) dX5_findHelp_1 rfl ?_
  refine jr_if_eq 8 dX5_findHelp_4 (by decide) rfl (fun c1 => ?_) (fun c1 => ?_)
  · have hF := jif_p hF c1
    refine jr_aload_n 0 dX5_findHelp_8 rfl rfl rfl ?_
    obtain ⟨r_1, M_1, hc_1, hF⟩ := jbd_e hF
    refine jh_callV1 (v := .ref (ja E 5 0)) (o := 0) (as := []) (st := []) (JF_X5_asItGoes hB hc_1) cw_X5_167 (iv_X5_asItGoes) ⟨rfl, rfl, by decide, by decide⟩ rfl (hB 0 (by decide)) rfl rfl (Nat.le_of_ble_eq_true rfl) dX5_findHelp_9 rfl ?_
    refine jr_astore_n (L' := [(1, .ref (ja E 5 0)), (0, .ref (ja E 0 0))]) dX5_findHelp_12 rfl (by decide) rfl rfl ?_
    refine jr_aload_n 1 dX5_findHelp_13 rfl rfl rfl ?_
    refine jr_bipush (v := (-9)) dX5_findHelp_14 (by decide) rfl ?_
    refine pf_X5_68 rfl rfl (hB 0 (by decide)) dX5_findHelp_16 ⟨rfl, rfl⟩ rfl (fun M_2 eM_2 => ?_)
    have hF := jlet_e hF M_2 eM_2
    refine jr_aload_n 1 dX5_findHelp_19 rfl rfl rfl ?_
    refine jr_aload_n 0 dX5_findHelp_20 rfl rfl rfl ?_
    refine gf_X5_208 rfl rfl (hB 5 (by decide)) dX5_findHelp_21 rfl ?_
    refine pf_X5_72 rfl rfl (hB 0 (by decide)) dX5_findHelp_24 ⟨rfl, rfl⟩ rfl (fun M_3 eM_3 => ?_)
    have hF := jlet_e hF M_3 eM_3
    refine jr_iconst (v := 0) dX5_findHelp_27 (by decide) rfl ?_
    refine jr_istore_n (L' := [(2, .int 0), (1, .ref (ja E 5 0)), (0, .ref (ja E 0 0))]) dX5_findHelp_28 rfl (by decide) rfl rfl ?_
    refine jr_sub [2, 1, 0] rfl ?_
    refine JL_X5_findHelp_29 hB (fun M_8 hF => ?_) jfu 0 M_3 hF
    refine jr_aload_n 0 dX5_findHelp_100 rfl rfl rfl ?_
    refine jr_iconst (v := 1) dX5_findHelp_101 (by decide) rfl ?_
    refine pf_X5_65 rfl rfl (hB 0 (by decide)) dX5_findHelp_102 (by decide) rfl (fun M_9 eM_9 => ?_)
    have hF := jlet_e hF M_9 eM_9
    exact jh_vret rfl dX5_findHelp_105 hF
  · have hF := jif_n hF c1
    exact jh_vret rfl dX5_findHelp_7 hF
set_option maxHeartbeats 4000000 in
set_option maxRecDepth 100000 in
theorem JF_X5_help {E : jx_E} (hB : ∀ o, o < 8 → jB E o) {a1 : Int32} {M : jx_M} {r : Int32} {M' : jx_M} (hF : F_X5_help a1 M = some (r, M')) : jC E yX5_help cX5_help 2 (some FieldType.int) rm_X5_help [.ref (ja E 0 0), .int a1] M (fun x M'' => x = some (.int r) ∧ M'' = M') := by
  refine jC.ofJ (L := [(0, .ref (ja E 0 0)), (1, .int a1)]) (by decide +kernel) (Nat.le_of_ble_eq_true rfl) rfl ?_
  unfold F_X5_help at hF
  refine jr_iload_n 1 dX5_help_0 rfl rfl rfl ?_
  refine jr_if_lt 9 dX5_help_1 (by decide) rfl (fun c1 => ?_) (fun c1 => ?_)
  · have hF := jif_p hF c1
    refine jr_bipush (v := (-2)) dX5_help_9 (by decide) rfl ?_
    exact jh_iret rfl dX5_help_11 hF
  · have hF := jif_n hF c1
    refine jr_iload_n 1 dX5_help_4 rfl rfl rfl ?_
    refine jr_iconst (v := 1) dX5_help_5 (by decide) rfl ?_
    refine jr_icmp_le 12 dX5_help_6 (by decide) rfl (fun c1 => ?_) (fun c1 => ?_)
    · have hF := jif_p hF c1
      refine jr_aload_n 0 dX5_help_12 rfl rfl rfl ?_
      obtain ⟨r_1, M_1, hc_1, hF⟩ := jbd_e hF
      refine jh_callV1 (v := .int r_1) (o := 0) (as := []) (st := []) (JF_X5_isLand hB hc_1) cw_X5_144 (iv_X5_isLand) ⟨rfl, rfl, by decide, by decide⟩ rfl (hB 0 (by decide)) rfl rfl (Nat.le_of_ble_eq_true rfl) dX5_help_13 rfl ?_
      refine jr_if_ne 22 dX5_help_16 (by decide) rfl (fun c1 => ?_) (fun c1 => ?_)
      · have hF := jif_n hF c1
        refine jr_aload_n 0 dX5_help_22 rfl rfl rfl ?_
        obtain ⟨r_2, M_2, hc_2, hF⟩ := jbd_e hF
        refine jh_callV0 (o := 0) (as := []) (st := []) (JF_X5_findHelp hB hc_2) cw_X5_198 (iv_X5_findHelp) ⟨rfl, rfl, by decide, by decide⟩ rfl (hB 0 (by decide)) rfl rfl (Nat.le_of_ble_eq_true rfl) dX5_help_23 rfl ?_
        refine jr_iload_n 1 dX5_help_26 rfl rfl rfl ?_
        refine jr_if_ne 37 dX5_help_27 (by decide) rfl (fun c1 => ?_) (fun c1 => ?_)
        · have hF := jif_n hF c1
          refine jr_aload_n 0 dX5_help_37 rfl rfl rfl ?_
          refine gf_X5_72 rfl rfl (hB 0 (by decide)) dX5_help_38 rfl ?_
          exact jh_iret rfl dX5_help_41 hF
        · have hF := jif_p hF c1
          refine jr_aload_n 0 dX5_help_30 rfl rfl rfl ?_
          refine gf_X5_68 rfl rfl (hB 0 (by decide)) dX5_help_31 rfl ?_
          refine jr_goto 41 dX5_help_34 (by decide) ?_
          exact jh_iret rfl dX5_help_41 hF
      · have hF := jif_p hF c1
        refine jr_bipush (v := (-3)) dX5_help_19 (by decide) rfl ?_
        exact jh_iret rfl dX5_help_21 hF
    · have hF := jif_n hF c1
      refine jr_bipush (v := (-2)) dX5_help_9 (by decide) rfl ?_
      exact jh_iret rfl dX5_help_11 hF
set_option maxHeartbeats 4000000 in
set_option maxRecDepth 100000 in
theorem JL_X5_takeToldWills_22 {E : jx_E} (hB : ∀ o, o < 8 → jB E o) {y1 : Int32} {y2 : Int32} {y3 : Int32} {k : jx_M → Option (Int32 × jx_M)} {r : Int32} {M' : jx_M} (hk : ∀ (M : jx_M), k M = some (r, M') → jJ E yX5_takeToldWills cX5_takeToldWills 9 (some FieldType.boolean) rm_X5_takeToldWills (fun x M'' => x = some (.int r) ∧ M'' = M') 123 [] [] M) : ∀ (n : Nat) (z4 : Int32) (M : jx_M), L_X5_takeToldWills_22 y1 y2 y3 k n z4 M = some (r, M') → jJ E yX5_takeToldWills cX5_takeToldWills 9 (some FieldType.boolean) rm_X5_takeToldWills (fun x M'' => x = some (.int r) ∧ M'' = M') 22 [(0, .ref (ja E 0 0)), (1, .int y1), (2, .int y2), (3, .int y3), (4, .int z4)] [] M := by
  intro n
  induction n with
  | zero => intro z4 M hF; exact nomatch (show (none : Option (Int32 × jx_M)) = some _ from hF)
  | succ n ih =>
    intro z4 M hF
    rw [L_X5_takeToldWills_22.eq_2] at hF
    refine jr_iload 4 dX5_takeToldWills_22 rfl rfl ?_
    refine jr_iload_n 3 dX5_takeToldWills_24 rfl rfl rfl ?_
    refine jr_icmp_ge 123 dX5_takeToldWills_25 (by decide) rfl (fun c1 => ?_) (fun c1 => ?_)
    · have hF := jif_p hF c1
      refine jr_sub [] rfl ?_
      exact hk M hF
    · have hF := jif_n hF c1
      refine jr_iload_n 2 dX5_takeToldWills_28 rfl rfl rfl ?_
      refine jr_iconst (v := 3) dX5_takeToldWills_29 (by decide) rfl ?_
      refine jr_iload 4 dX5_takeToldWills_30 rfl rfl ?_
      refine jr_imul dX5_takeToldWills_32 rfl ?_
      refine jr_iadd dX5_takeToldWills_33 rfl ?_
      refine jr_topi (fun x5_1 ex5_1 => ?_)
      have hF := jlet_e hF x5_1 ex5_1
      refine jr_istore (L' := [(5, .int x5_1), (0, .ref (ja E 0 0)), (1, .int y1), (2, .int y2), (3, .int y3), (4, .int z4)]) dX5_takeToldWills_34 (by decide) rfl rfl ?_
      refine jr_aload_n 1 dX5_takeToldWills_36 rfl rfl rfl ?_
      refine gf_X5_15 rfl rfl (hB 0 (by decide)) dX5_takeToldWills_37 rfl ?_
      refine jr_iload_n 2 dX5_takeToldWills_40 rfl rfl rfl ?_
      refine jr_iload 0 dX5_takeToldWills_41 rfl rfl ?_
      obtain ⟨r_2, M_3, hc_2, hF⟩ := jbd_e hF
      refine jh_callV1 (v := .int r_2) (o := 1) (as := [.int y1, .int x5_1]) (st := []) (JF_X4_read hB hc_2) cw_X5_239 (iv_X4_read) ⟨rfl, rfl, by decide, by decide⟩ rfl (hB 1 (by decide)) rfl rfl (Nat.le_of_ble_eq_true rfl) dX5_takeToldWills_43 rfl ?_
      refine jr_istore (L' := [(6, .int r_2), (5, .int x5_1), (0, .ref (ja E 0 0)), (1, .int y1), (2, .int y2), (3, .int y3), (4, .int z4)]) dX5_takeToldWills_46 (by decide) rfl rfl ?_
      refine jr_aload_n 2 dX5_takeToldWills_48 rfl rfl rfl ?_
      refine gf_X5_15 rfl rfl (hB 0 (by decide)) dX5_takeToldWills_49 rfl ?_
      refine jr_iload_n 3 dX5_takeToldWills_52 rfl rfl rfl ?_
      refine jr_iload 1 dX5_takeToldWills_53 rfl rfl ?_
      refine jr_iconst (v := 1) dX5_takeToldWills_55 (by decide) rfl ?_
      refine jr_iadd dX5_takeToldWills_56 rfl ?_
      obtain ⟨r_3, M_4, hc_3, hF⟩ := jbd_e hF
      refine jh_callV1 (v := .int r_3) (o := 1) (as := [.int y1, .int (x5_1 + 1)]) (st := []) (JF_X4_read hB hc_3) cw_X5_239 (iv_X4_read) ⟨rfl, rfl, by decide, by decide⟩ rfl (hB 1 (by decide)) rfl rfl (Nat.le_of_ble_eq_true rfl) dX5_takeToldWills_57 rfl ?_
      refine jr_istore (L' := [(7, .int r_3), (6, .int r_2), (5, .int x5_1), (0, .ref (ja E 0 0)), (1, .int y1), (2, .int y2), (3, .int y3), (4, .int z4)]) dX5_takeToldWills_60 (by decide) rfl rfl ?_
      refine jr_aload_n 3 dX5_takeToldWills_62 rfl rfl rfl ?_
      refine gf_X5_15 rfl rfl (hB 0 (by decide)) dX5_takeToldWills_63 rfl ?_
      refine jr_iload_n 4 dX5_takeToldWills_66 rfl rfl rfl ?_
      refine jr_iload 2 dX5_takeToldWills_67 rfl rfl ?_
      refine jr_iconst (v := 2) dX5_takeToldWills_69 (by decide) rfl ?_
      refine jr_iadd dX5_takeToldWills_70 rfl ?_
      obtain ⟨r_4, M_5, hc_4, hF⟩ := jbd_e hF
      refine jh_callV1 (v := .int r_4) (o := 1) (as := [.int y1, .int (x5_1 + 2)]) (st := []) (JF_X4_read hB hc_4) cw_X5_239 (iv_X4_read) ⟨rfl, rfl, by decide, by decide⟩ rfl (hB 1 (by decide)) rfl rfl (Nat.le_of_ble_eq_true rfl) dX5_takeToldWills_71 rfl ?_
      refine jr_istore (L' := [(8, .int r_4), (7, .int r_3), (6, .int r_2), (5, .int x5_1), (0, .ref (ja E 0 0)), (1, .int y1), (2, .int y2), (3, .int y3), (4, .int z4)]) dX5_takeToldWills_74 (by decide) rfl rfl ?_
      refine jr_aload_n 4 dX5_takeToldWills_76 rfl rfl rfl ?_
      refine jr_iload 2 dX5_takeToldWills_77 rfl rfl ?_
      obtain ⟨r_5, M_6, hc_5, hF⟩ := jbd_e hF
      refine jh_callV1 (v := .int r_5) (o := 0) (as := [.int r_2]) (st := []) (JF_X5_isPost hB hc_5) cw_X5_151 (iv_X5_isPost) ⟨rfl, rfl, by decide, by decide⟩ rfl (hB 0 (by decide)) rfl rfl (Nat.le_of_ble_eq_true rfl) dX5_takeToldWills_79 rfl ?_
      refine jr_if_eq 102 dX5_takeToldWills_82 (by decide) rfl (fun c1 => ?_) (fun c1 => ?_)
      · have hF := jif_p hF c1
        refine jr_iconst (v := 0) dX5_takeToldWills_102 (by decide) rfl ?_
        exact jh_zret rfl (Or.inl rfl) dX5_takeToldWills_103 hF
      · have hF := jif_n hF c1
        refine jr_aload_n 4 dX5_takeToldWills_85 rfl rfl rfl ?_
        refine jr_iload 1 dX5_takeToldWills_86 rfl rfl ?_
        obtain ⟨r_6, M_7, hc_6, hF⟩ := jbd_e hF
        refine jh_callV1 (v := .int r_6) (o := 0) (as := [.int r_3]) (st := []) (JF_X5_isPerson hB hc_6) cw_X5_120 (iv_X5_isPerson) ⟨rfl, rfl, by decide, by decide⟩ rfl (hB 0 (by decide)) rfl rfl (Nat.le_of_ble_eq_true rfl) dX5_takeToldWills_88 rfl ?_
        refine jr_if_eq 102 dX5_takeToldWills_91 (by decide) rfl (fun c1 => ?_) (fun c1 => ?_)
        · have hF := jif_p hF c1
          refine jr_iconst (v := 0) dX5_takeToldWills_102 (by decide) rfl ?_
          exact jh_zret rfl (Or.inl rfl) dX5_takeToldWills_103 hF
        · have hF := jif_n hF c1
          refine jr_iload 0 dX5_takeToldWills_94 rfl rfl ?_
          obtain ⟨r_7, M_8, hc_7, hF⟩ := jbd_e hF
          refine jh_callS1 (v := .int r_7) (as := [.int r_4]) (st := []) (JF_X5_isDecade hB hc_7) cw_X5_154 (iv_X5_isDecade) ⟨rfl, rfl, by decide, by decide⟩ rfl rfl (Nat.le_of_ble_eq_true rfl) dX5_takeToldWills_96 rfl ?_
          refine jr_if_ne 104 dX5_takeToldWills_99 (by decide) rfl (fun c1 => ?_) (fun c1 => ?_)
          · have hF := jif_n hF c1
            refine jr_aload_n 4 dX5_takeToldWills_104 rfl rfl rfl ?_
            refine gf_X5_48 rfl rfl (hB 0 (by decide)) dX5_takeToldWills_105 rfl ?_
            refine jr_iload 2 dX5_takeToldWills_108 rfl rfl ?_
            refine jr_iload 1 dX5_takeToldWills_110 rfl rfl ?_
            refine jr_iload 0 dX5_takeToldWills_112 rfl rfl ?_
            obtain ⟨r_8, M_9, hc_8, hF⟩ := jbd_e hF
            refine jh_callV0 (o := 6) (as := [.int r_2, .int r_3, .int r_4]) (st := []) (JF_X2_addWill hB (Or.inr rfl) hc_8) cw_X5_160 (iv_X2_addWill) ⟨rfl, rfl, by decide, by decide⟩ rfl (hB 6 (by decide)) rfl rfl (Nat.le_of_ble_eq_true rfl) dX5_takeToldWills_114 rfl ?_
            obtain ⟨x4_1, ex4_1⟩ : ∃ z : Int32, z = z4 + 1 := ⟨_, rfl⟩
            have hF := jlet_e hF x4_1 ex4_1
            refine jr_iinc (v := x4_1) (L' := [(4, .int x4_1), (8, .int r_4), (7, .int r_3), (6, .int r_2), (5, .int x5_1), (0, .ref (ja E 0 0)), (1, .int y1), (2, .int y2), (3, .int y3)]) 8 dX5_takeToldWills_117 rfl (by rw [ex4_1]; rfl) (by decide) rfl rfl ?_
            refine jr_goto 22 dX5_takeToldWills_120 (by decide) ?_
            refine jr_sub [5, 6, 7, 8, 0] rfl ?_
            exact ih x4_1 M_9 hF
          · have hF := jif_p hF c1
            refine jr_iconst (v := 0) dX5_takeToldWills_102 (by decide) rfl ?_
            exact jh_zret rfl (Or.inl rfl) dX5_takeToldWills_103 hF
set_option maxHeartbeats 4000000 in
set_option maxRecDepth 100000 in
theorem JF_X5_takeToldWills {E : jx_E} (hB : ∀ o, o < 8 → jB E o) {a1 : Int32} {a2 : Int32} {a3 : Int32} {M : jx_M} {r : Int32} {M' : jx_M} (hF : F_X5_takeToldWills a1 a2 a3 M = some (r, M')) : jC E yX5_takeToldWills cX5_takeToldWills 9 (some FieldType.boolean) rm_X5_takeToldWills [.ref (ja E 0 0), .int a1, .int a2, .int a3] M (fun x M'' => x = some (.int r) ∧ M'' = M') := by
  refine jC.ofJ (L := [(0, .ref (ja E 0 0)), (1, .int a1), (2, .int a2), (3, .int a3)]) (by decide +kernel) (Nat.le_of_ble_eq_true rfl) rfl ?_
  unfold F_X5_takeToldWills at hF
  refine jr_aload_n 0 dX5_takeToldWills_0 rfl rfl rfl ?_
  refine gf_X5_48 rfl rfl (hB 0 (by decide)) dX5_takeToldWills_1 rfl ?_
  refine jr_aload_n 0 dX5_takeToldWills_4 rfl rfl rfl ?_
  refine gf_X5_28 rfl rfl (hB 0 (by decide)) dX5_takeToldWills_5 rfl ?_
  obtain ⟨r_1, M_1, hc_1, hF⟩ := jbd_e hF
  refine jh_callV0 (o := 6) (as := [.ref (ja E 3 0)]) (st := []) (JF_X2_takeOver hB (Or.inr rfl) (Or.inl rfl) hc_1) cw_X5_214 (iv_X2_takeOver) ⟨rfl, rfl, by decide, by decide⟩ rfl (hB 6 (by decide)) rfl rfl (Nat.le_of_ble_eq_true rfl) dX5_takeToldWills_8 rfl ?_
  refine jr_aload_n 0 dX5_takeToldWills_11 rfl rfl rfl ?_
  refine gf_X5_48 rfl rfl (hB 0 (by decide)) dX5_takeToldWills_12 rfl ?_
  refine jr_iconst (v := 0) dX5_takeToldWills_15 (by decide) rfl ?_
  refine pf_X5_157 rfl rfl (hB 6 (by decide)) dX5_takeToldWills_16 ⟨rfl, rfl⟩ rfl (fun M_2 eM_2 => ?_)
  have hF := jlet_e hF M_2 eM_2
  refine jr_iconst (v := 0) dX5_takeToldWills_19 (by decide) rfl ?_
  refine jr_istore (L' := [(4, .int 0), (0, .ref (ja E 0 0)), (1, .int a1), (2, .int a2), (3, .int a3)]) dX5_takeToldWills_20 (by decide) rfl rfl ?_
  refine jr_sub [1, 2, 3, 4, 0] rfl ?_
  refine JL_X5_takeToldWills_22 hB (fun M_10 hF => ?_) jfu 0 M_2 hF
  refine jr_iconst (v := 1) dX5_takeToldWills_123 (by decide) rfl ?_
  exact jh_zret rfl (Or.inr rfl) dX5_takeToldWills_124 hF
set_option maxHeartbeats 4000000 in
set_option maxRecDepth 100000 in
theorem JF_X5_wills {E : jx_E} (hB : ∀ o, o < 8 → jB E o) {a1 : Int32} {a2 : Int32} {a3 : Int32} {a4 : Int32} {M : jx_M} {r : Int32} {M' : jx_M} (hF : F_X5_wills a1 a2 a3 a4 M = some (r, M')) : jC E yX5_wills cX5_wills 6 (some FieldType.int) rm_X5_wills [.ref (ja E 0 0), .int a1, .int a2, .int a3, .int a4] M (fun x M'' => x = some (.int r) ∧ M'' = M') := by
  refine jC.ofJ (L := [(0, .ref (ja E 0 0)), (1, .int a1), (2, .int a2), (3, .int a3), (4, .int a4)]) (by decide +kernel) (Nat.le_of_ble_eq_true rfl) rfl ?_
  unfold F_X5_wills at hF
  refine jr_aload_n 0 dX5_wills_0 rfl rfl rfl ?_
  refine jr_iconst (v := 0) dX5_wills_1 (by decide) rfl ?_
  refine pf_X5_75 rfl rfl (hB 0 (by decide)) dX5_wills_2 ⟨rfl, rfl⟩ rfl (fun M_1 eM_1 => ?_)
  have hF := jlet_e hF M_1 eM_1
  refine jr_iload_n 1 dX5_wills_5 rfl rfl rfl ?_
  obtain ⟨r_1, M_2, hc_1, hF⟩ := jbd_e hF
  refine jh_callS1 (v := .int r_1) (as := [.int a1]) (st := []) (JF_X5_isSheet hB hc_1) cw_X5_81 (iv_X5_isSheet) ⟨rfl, rfl, by decide, by decide⟩ rfl rfl (Nat.le_of_ble_eq_true rfl) dX5_wills_6 rfl ?_
  refine jr_if_ne 14 dX5_wills_9 (by decide) rfl (fun c1 => ?_) (fun c1 => ?_)
  · have hF := jif_n hF c1
    refine jr_iload_n 2 dX5_wills_14 rfl rfl rfl ?_
    obtain ⟨r_2, M_3, hc_2, hF⟩ := jbd_e hF
    refine jh_callS1 (v := .int r_2) (as := [.int a2]) (st := []) (JF_X5_isLane hB hc_2) cw_X5_85 (iv_X5_isLane) ⟨rfl, rfl, by decide, by decide⟩ rfl rfl (Nat.le_of_ble_eq_true rfl) dX5_wills_15 rfl ?_
    refine jr_if_eq 33 dX5_wills_18 (by decide) rfl (fun c1 => ?_) (fun c1 => ?_)
    · have hF := jif_p hF c1
      refine jr_bipush (v := (-2)) dX5_wills_33 (by decide) rfl ?_
      exact jh_iret rfl dX5_wills_35 hF
    · have hF := jif_n hF c1
      refine jr_iload 4 dX5_wills_21 rfl rfl ?_
      refine jr_if_lt 33 dX5_wills_23 (by decide) rfl (fun c1 => ?_) (fun c1 => ?_)
      · have hF := jif_p hF c1
        refine jr_bipush (v := (-2)) dX5_wills_33 (by decide) rfl ?_
        exact jh_iret rfl dX5_wills_35 hF
      · have hF := jif_n hF c1
        refine jr_iload 4 dX5_wills_26 rfl rfl ?_
        refine jr_bipush (v := 6) dX5_wills_28 (by decide) rfl ?_
        refine jr_icmp_le 36 dX5_wills_30 (by decide) rfl (fun c1 => ?_) (fun c1 => ?_)
        · have hF := jif_p hF c1
          refine jr_aload_n 0 dX5_wills_36 rfl rfl rfl ?_
          obtain ⟨r_3, M_4, hc_3, hF⟩ := jbd_e hF
          refine jh_callV1 (v := .int r_3) (o := 0) (as := []) (st := []) (JF_X5_isLand hB hc_3) cw_X5_144 (iv_X5_isLand) ⟨rfl, rfl, by decide, by decide⟩ rfl (hB 0 (by decide)) rfl rfl (Nat.le_of_ble_eq_true rfl) dX5_wills_37 rfl ?_
          refine jr_if_ne 46 dX5_wills_40 (by decide) rfl (fun c1 => ?_) (fun c1 => ?_)
          · have hF := jif_n hF c1
            refine jr_aload_n 0 dX5_wills_46 rfl rfl rfl ?_
            refine jr_iload_n 1 dX5_wills_47 rfl rfl rfl ?_
            refine jr_iload_n 2 dX5_wills_48 rfl rfl rfl ?_
            obtain ⟨r_4, M_5, hc_4, hF⟩ := jbd_e hF
            refine jh_callV1 (v := .int r_4) (o := 0) (as := [.int a1, .int a2]) (st := []) (JF_X5_faultOfRow hB hc_4) cw_X5_88 (iv_X5_faultOfRow) ⟨rfl, rfl, by decide, by decide⟩ rfl (hB 0 (by decide)) rfl rfl (Nat.le_of_ble_eq_true rfl) dX5_wills_49 rfl ?_
            refine jr_istore (L' := [(5, .int r_4), (0, .ref (ja E 0 0)), (1, .int a1), (2, .int a2), (3, .int a3), (4, .int a4)]) dX5_wills_52 (by decide) rfl rfl ?_
            refine jr_iload 0 dX5_wills_54 rfl rfl ?_
            refine jr_if_ne 78 dX5_wills_56 (by decide) rfl (fun c1 => ?_) (fun c1 => ?_)
            · have hF := jif_n hF c1
              refine jr_iload 0 dX5_wills_78 rfl rfl ?_
              refine jr_if_eq 90 dX5_wills_80 (by decide) rfl (fun c1 => ?_) (fun c1 => ?_)
              · have hF := jif_p hF c1
                refine jr_aload_n 1 dX5_wills_90 rfl rfl rfl ?_
                refine jr_iload_n 2 dX5_wills_91 rfl rfl rfl ?_
                refine jr_iload_n 4 dX5_wills_92 rfl rfl rfl ?_
                refine jr_iload 5 dX5_wills_93 rfl rfl ?_
                obtain ⟨r_5, M_6, hc_5, hF⟩ := jbd_e hF
                refine jh_callV1 (v := .int r_5) (o := 0) (as := [.int a1, .int a3, .int a4]) (st := []) (JF_X5_takeToldWills hB hc_5) cw_X5_201 (iv_X5_takeToldWills) ⟨rfl, rfl, by decide, by decide⟩ rfl (hB 0 (by decide)) rfl rfl (Nat.le_of_ble_eq_true rfl) dX5_wills_95 rfl ?_
                refine jr_if_ne 104 dX5_wills_98 (by decide) rfl (fun c1 => ?_) (fun c1 => ?_)
                · have hF := jif_n hF c1
                  refine jr_aload_n 1 dX5_wills_104 rfl rfl rfl ?_
                  refine gf_X5_51 rfl rfl (hB 0 (by decide)) dX5_wills_105 rfl ?_
                  refine jr_aload_n 1 dX5_wills_108 rfl rfl rfl ?_
                  refine gf_X5_48 rfl rfl (hB 0 (by decide)) dX5_wills_109 rfl ?_
                  refine jr_bipush (v := 39) dX5_wills_112 (by decide) rfl ?_
                  refine jr_sipush (v := 1000) dX5_wills_114 (by decide) rfl ?_
                  obtain ⟨r_6, M_7, hc_6, hF⟩ := jbd_e hF
                  refine jh_callV0 (o := 7) (as := [.ref (ja E 6 0), .int 39, .int 1000]) (st := []) (JF_X0_run hB (Or.inr rfl) (Or.inr rfl) hc_6) cw_X5_204 (iv_X0_run) ⟨rfl, rfl, by decide, by decide⟩ rfl (hB 7 (by decide)) rfl rfl (Nat.le_of_ble_eq_true rfl) dX5_wills_117 rfl ?_
                  refine jr_aload_n 1 dX5_wills_120 rfl rfl rfl ?_
                  refine gf_X5_51 rfl rfl (hB 0 (by decide)) dX5_wills_121 rfl ?_
                  refine gf_X5_208 rfl rfl (hB 7 (by decide)) dX5_wills_124 rfl ?_
                  exact jh_iret rfl dX5_wills_127 hF
                · have hF := jif_p hF c1
                  refine jr_bipush (v := (-2)) dX5_wills_101 (by decide) rfl ?_
                  exact jh_iret rfl dX5_wills_103 hF
              · have hF := jif_n hF c1
                refine jr_aload_n 1 dX5_wills_83 rfl rfl rfl ?_
                refine jr_iload 0 dX5_wills_84 rfl rfl ?_
                obtain ⟨r_7, M_8, hc_7, hF⟩ := jbd_e hF
                refine jh_callV1 (v := .int r_7) (o := 0) (as := [.int r_4]) (st := []) (JF_X5_faulty hB hc_7) cw_X5_96 (iv_X5_faulty) ⟨rfl, rfl, by decide, by decide⟩ rfl (hB 0 (by decide)) rfl rfl (Nat.le_of_ble_eq_true rfl) dX5_wills_86 rfl ?_
                exact jh_iret rfl dX5_wills_89 hF
            · have hF := jif_p hF c1
              refine jr_aload_n 1 dX5_wills_59 rfl rfl rfl ?_
              refine gf_X5_15 rfl rfl (hB 0 (by decide)) dX5_wills_60 rfl ?_
              refine jr_iload_n 2 dX5_wills_63 rfl rfl rfl ?_
              refine jr_iload_n 4 dX5_wills_64 rfl rfl rfl ?_
              refine jr_iconst (v := 3) dX5_wills_65 (by decide) rfl ?_
              refine jr_iload 5 dX5_wills_66 rfl rfl ?_
              refine jr_imul dX5_wills_68 rfl ?_
              obtain ⟨r_8, M_9, hc_8, hF⟩ := jbd_e hF
              refine jh_callV1 (v := .int r_8) (o := 1) (as := [.int a1, .int a3, .int (3 * a4)]) (st := []) (JF_X4_spans hB hc_8) cw_X5_92 (iv_X4_spans) ⟨rfl, rfl, by decide, by decide⟩ rfl (hB 1 (by decide)) rfl rfl (Nat.le_of_ble_eq_true rfl) dX5_wills_69 rfl ?_
              refine jr_if_ne 78 dX5_wills_72 (by decide) rfl (fun c1 => ?_) (fun c1 => ?_)
              · have hF := jif_n hF c1
                refine jr_iload 0 dX5_wills_78 rfl rfl ?_
                refine jr_if_eq 90 dX5_wills_80 (by decide) rfl (fun c1 => ?_) (fun c1 => ?_)
                · have hF := jif_p hF c1
                  refine jr_aload_n 1 dX5_wills_90 rfl rfl rfl ?_
                  refine jr_iload_n 2 dX5_wills_91 rfl rfl rfl ?_
                  refine jr_iload_n 4 dX5_wills_92 rfl rfl rfl ?_
                  refine jr_iload 5 dX5_wills_93 rfl rfl ?_
                  obtain ⟨r_9, M_10, hc_9, hF⟩ := jbd_e hF
                  refine jh_callV1 (v := .int r_9) (o := 0) (as := [.int a1, .int a3, .int a4]) (st := []) (JF_X5_takeToldWills hB hc_9) cw_X5_201 (iv_X5_takeToldWills) ⟨rfl, rfl, by decide, by decide⟩ rfl (hB 0 (by decide)) rfl rfl (Nat.le_of_ble_eq_true rfl) dX5_wills_95 rfl ?_
                  refine jr_if_ne 104 dX5_wills_98 (by decide) rfl (fun c1 => ?_) (fun c1 => ?_)
                  · have hF := jif_n hF c1
                    refine jr_aload_n 1 dX5_wills_104 rfl rfl rfl ?_
                    refine gf_X5_51 rfl rfl (hB 0 (by decide)) dX5_wills_105 rfl ?_
                    refine jr_aload_n 1 dX5_wills_108 rfl rfl rfl ?_
                    refine gf_X5_48 rfl rfl (hB 0 (by decide)) dX5_wills_109 rfl ?_
                    refine jr_bipush (v := 39) dX5_wills_112 (by decide) rfl ?_
                    refine jr_sipush (v := 1000) dX5_wills_114 (by decide) rfl ?_
                    obtain ⟨r_10, M_11, hc_10, hF⟩ := jbd_e hF
                    refine jh_callV0 (o := 7) (as := [.ref (ja E 6 0), .int 39, .int 1000]) (st := []) (JF_X0_run hB (Or.inr rfl) (Or.inr rfl) hc_10) cw_X5_204 (iv_X0_run) ⟨rfl, rfl, by decide, by decide⟩ rfl (hB 7 (by decide)) rfl rfl (Nat.le_of_ble_eq_true rfl) dX5_wills_117 rfl ?_
                    refine jr_aload_n 1 dX5_wills_120 rfl rfl rfl ?_
                    refine gf_X5_51 rfl rfl (hB 0 (by decide)) dX5_wills_121 rfl ?_
                    refine gf_X5_208 rfl rfl (hB 7 (by decide)) dX5_wills_124 rfl ?_
                    exact jh_iret rfl dX5_wills_127 hF
                  · have hF := jif_p hF c1
                    refine jr_bipush (v := (-2)) dX5_wills_101 (by decide) rfl ?_
                    exact jh_iret rfl dX5_wills_103 hF
                · have hF := jif_n hF c1
                  refine jr_aload_n 1 dX5_wills_83 rfl rfl rfl ?_
                  refine jr_iload 0 dX5_wills_84 rfl rfl ?_
                  obtain ⟨r_11, M_12, hc_11, hF⟩ := jbd_e hF
                  refine jh_callV1 (v := .int r_11) (o := 0) (as := [.int r_4]) (st := []) (JF_X5_faulty hB hc_11) cw_X5_96 (iv_X5_faulty) ⟨rfl, rfl, by decide, by decide⟩ rfl (hB 0 (by decide)) rfl rfl (Nat.le_of_ble_eq_true rfl) dX5_wills_86 rfl ?_
                  exact jh_iret rfl dX5_wills_89 hF
              · have hF := jif_p hF c1
                refine jr_iconst (v := 3) dX5_wills_75 (by decide) rfl ?_
                refine jr_istore (L' := [(5, .int 3), (0, .ref (ja E 0 0)), (1, .int a1), (2, .int a2), (3, .int a3), (4, .int a4)]) dX5_wills_76 (by decide) rfl rfl ?_
                refine jr_iload 0 dX5_wills_78 rfl rfl ?_
                refine jr_if_eq 90 dX5_wills_80 (by decide) rfl (fun c1 => absurd c1 (by decide)) (fun c1 => ?_)
                refine jr_aload_n 1 dX5_wills_83 rfl rfl rfl ?_
                refine jr_iload 0 dX5_wills_84 rfl rfl ?_
                obtain ⟨r_12, M_13, hc_12, hF⟩ := jbd_e hF
                refine jh_callV1 (v := .int r_12) (o := 0) (as := [.int 3]) (st := []) (JF_X5_faulty hB hc_12) cw_X5_96 (iv_X5_faulty) ⟨rfl, rfl, by decide, by decide⟩ rfl (hB 0 (by decide)) rfl rfl (Nat.le_of_ble_eq_true rfl) dX5_wills_86 rfl ?_
                exact jh_iret rfl dX5_wills_89 hF
          · have hF := jif_p hF c1
            refine jr_bipush (v := (-3)) dX5_wills_43 (by decide) rfl ?_
            exact jh_iret rfl dX5_wills_45 hF
        · have hF := jif_n hF c1
          refine jr_bipush (v := (-2)) dX5_wills_33 (by decide) rfl ?_
          exact jh_iret rfl dX5_wills_35 hF
  · have hF := jif_p hF c1
    refine jr_iconst (v := (-1)) dX5_wills_12 (by decide) rfl ?_
    exact jh_iret rfl dX5_wills_13 hF
set_option maxHeartbeats 4000000 in
set_option maxRecDepth 100000 in
theorem JF_X5_reading {E : jx_E} (hB : ∀ o, o < 8 → jB E o) {a1 : Int32} {a2 : Int32} {a3 : Int32} {M : jx_M} {r : Int32} {M' : jx_M} (hF : F_X5_reading a1 a2 a3 M = some (r, M')) : jC E yX5_reading cX5_reading 4 (some FieldType.int) rm_X5_reading [.ref (ja E 0 0), .int a1, .int a2, .int a3] M (fun x M'' => x = some (.int r) ∧ M'' = M') := by
  refine jC.ofJ (L := [(0, .ref (ja E 0 0)), (1, .int a1), (2, .int a2), (3, .int a3)]) (by decide +kernel) (Nat.le_of_ble_eq_true rfl) rfl ?_
  unfold F_X5_reading at hF
  refine jr_aload_n 0 dX5_reading_0 rfl rfl rfl ?_
  refine jr_iload_n 1 dX5_reading_1 rfl rfl rfl ?_
  obtain ⟨r_1, M_1, hc_1, hF⟩ := jbd_e hF
  refine jh_callV1 (v := .int r_1) (o := 0) (as := [.int a1]) (st := []) (JF_X5_isPost hB hc_1) cw_X5_151 (iv_X5_isPost) ⟨rfl, rfl, by decide, by decide⟩ rfl (hB 0 (by decide)) rfl rfl (Nat.le_of_ble_eq_true rfl) dX5_reading_2 rfl ?_
  refine jr_if_eq 22 dX5_reading_5 (by decide) rfl (fun c1 => ?_) (fun c1 => ?_)
  · have hF := jif_p hF c1
    refine jr_iconst (v := (-1)) dX5_reading_22 (by decide) rfl ?_
    exact jh_iret rfl dX5_reading_23 hF
  · have hF := jif_n hF c1
    refine jr_aload_n 0 dX5_reading_8 rfl rfl rfl ?_
    refine jr_iload_n 3 dX5_reading_9 rfl rfl rfl ?_
    obtain ⟨r_2, M_2, hc_2, hF⟩ := jbd_e hF
    refine jh_callV1 (v := .int r_2) (o := 0) (as := [.int a3]) (st := []) (JF_X5_isPerson hB hc_2) cw_X5_120 (iv_X5_isPerson) ⟨rfl, rfl, by decide, by decide⟩ rfl (hB 0 (by decide)) rfl rfl (Nat.le_of_ble_eq_true rfl) dX5_reading_10 rfl ?_
    refine jr_if_ne 24 dX5_reading_13 (by decide) rfl (fun c1 => ?_) (fun c1 => ?_)
    · have hF := jif_n hF c1
      refine jr_iload_n 2 dX5_reading_24 rfl rfl rfl ?_
      obtain ⟨r_3, M_3, hc_3, hF⟩ := jbd_e hF
      refine jh_callS1 (v := .int r_3) (as := [.int a2]) (st := []) (JF_X5_isDecade hB hc_3) cw_X5_154 (iv_X5_isDecade) ⟨rfl, rfl, by decide, by decide⟩ rfl rfl (Nat.le_of_ble_eq_true rfl) dX5_reading_25 rfl ?_
      refine jr_if_ne 34 dX5_reading_28 (by decide) rfl (fun c1 => ?_) (fun c1 => ?_)
      · have hF := jif_n hF c1
        refine jr_aload_n 0 dX5_reading_34 rfl rfl rfl ?_
        refine gf_X5_35 rfl rfl (hB 0 (by decide)) dX5_reading_35 rfl ?_
        refine gf_X5_111 rfl rfl (hB 4 (by decide)) dX5_reading_38 rfl ?_
        refine jr_bipush (v := 8) dX5_reading_41 (by decide) rfl ?_
        refine jr_icmp_lt 49 dX5_reading_43 (by decide) rfl (fun c1 => ?_) (fun c1 => ?_)
        · have hF := jif_p hF c1
          refine jr_aload_n 0 dX5_reading_49 rfl rfl rfl ?_
          refine gf_X5_35 rfl rfl (hB 0 (by decide)) dX5_reading_50 rfl ?_
          refine jr_iload_n 1 dX5_reading_53 rfl rfl rfl ?_
          refine jr_iload_n 2 dX5_reading_54 rfl rfl rfl ?_
          refine jr_iload_n 3 dX5_reading_55 rfl rfl rfl ?_
          obtain ⟨r_4, M_4, hc_4, hF⟩ := jbd_e hF
          refine jh_callV0 (o := 4) (as := [.int a1, .int a2, .int a3]) (st := []) (JF_X3_addReading hB hc_4) cw_X5_211 (iv_X3_addReading) ⟨rfl, rfl, by decide, by decide⟩ rfl (hB 4 (by decide)) rfl rfl (Nat.le_of_ble_eq_true rfl) dX5_reading_56 rfl ?_
          refine jr_aload_n 0 dX5_reading_59 rfl rfl rfl ?_
          refine gf_X5_35 rfl rfl (hB 0 (by decide)) dX5_reading_60 rfl ?_
          refine gf_X5_111 rfl rfl (hB 4 (by decide)) dX5_reading_63 rfl ?_
          refine jr_iconst (v := 1) dX5_reading_66 (by decide) rfl ?_
          refine jr_isub dX5_reading_67 rfl ?_
          exact jh_iret rfl dX5_reading_68 hF
        · have hF := jif_n hF c1
          refine jr_bipush (v := (-4)) dX5_reading_46 (by decide) rfl ?_
          exact jh_iret rfl dX5_reading_48 hF
      · have hF := jif_p hF c1
        refine jr_bipush (v := (-2)) dX5_reading_31 (by decide) rfl ?_
        exact jh_iret rfl dX5_reading_33 hF
    · have hF := jif_p hF c1
      refine jr_iload_n 3 dX5_reading_16 rfl rfl rfl ?_
      refine jr_bipush (v := (-9)) dX5_reading_17 (by decide) rfl ?_
      refine jr_icmp_eq 24 dX5_reading_19 (by decide) rfl (fun c1 => ?_) (fun c1 => ?_)
      · have hF := jif_p hF c1
        refine jr_iload_n 2 dX5_reading_24 rfl rfl rfl ?_
        obtain ⟨r_5, M_5, hc_5, hF⟩ := jbd_e hF
        refine jh_callS1 (v := .int r_5) (as := [.int a2]) (st := []) (JF_X5_isDecade hB hc_5) cw_X5_154 (iv_X5_isDecade) ⟨rfl, rfl, by decide, by decide⟩ rfl rfl (Nat.le_of_ble_eq_true rfl) dX5_reading_25 rfl ?_
        refine jr_if_ne 34 dX5_reading_28 (by decide) rfl (fun c1 => ?_) (fun c1 => ?_)
        · have hF := jif_n hF c1
          refine jr_aload_n 0 dX5_reading_34 rfl rfl rfl ?_
          refine gf_X5_35 rfl rfl (hB 0 (by decide)) dX5_reading_35 rfl ?_
          refine gf_X5_111 rfl rfl (hB 4 (by decide)) dX5_reading_38 rfl ?_
          refine jr_bipush (v := 8) dX5_reading_41 (by decide) rfl ?_
          refine jr_icmp_lt 49 dX5_reading_43 (by decide) rfl (fun c1 => ?_) (fun c1 => ?_)
          · have hF := jif_p hF c1
            refine jr_aload_n 0 dX5_reading_49 rfl rfl rfl ?_
            refine gf_X5_35 rfl rfl (hB 0 (by decide)) dX5_reading_50 rfl ?_
            refine jr_iload_n 1 dX5_reading_53 rfl rfl rfl ?_
            refine jr_iload_n 2 dX5_reading_54 rfl rfl rfl ?_
            refine jr_iload_n 3 dX5_reading_55 rfl rfl rfl ?_
            obtain ⟨r_6, M_6, hc_6, hF⟩ := jbd_e hF
            refine jh_callV0 (o := 4) (as := [.int a1, .int a2, .int a3]) (st := []) (JF_X3_addReading hB hc_6) cw_X5_211 (iv_X3_addReading) ⟨rfl, rfl, by decide, by decide⟩ rfl (hB 4 (by decide)) rfl rfl (Nat.le_of_ble_eq_true rfl) dX5_reading_56 rfl ?_
            refine jr_aload_n 0 dX5_reading_59 rfl rfl rfl ?_
            refine gf_X5_35 rfl rfl (hB 0 (by decide)) dX5_reading_60 rfl ?_
            refine gf_X5_111 rfl rfl (hB 4 (by decide)) dX5_reading_63 rfl ?_
            refine jr_iconst (v := 1) dX5_reading_66 (by decide) rfl ?_
            refine jr_isub dX5_reading_67 rfl ?_
            exact jh_iret rfl dX5_reading_68 hF
          · have hF := jif_n hF c1
            refine jr_bipush (v := (-4)) dX5_reading_46 (by decide) rfl ?_
            exact jh_iret rfl dX5_reading_48 hF
        · have hF := jif_p hF c1
          refine jr_bipush (v := (-2)) dX5_reading_31 (by decide) rfl ?_
          exact jh_iret rfl dX5_reading_33 hF
      · have hF := jif_n hF c1
        refine jr_iconst (v := (-1)) dX5_reading_22 (by decide) rfl ?_
        exact jh_iret rfl dX5_reading_23 hF
set_option maxHeartbeats 4000000 in
set_option maxRecDepth 100000 in
theorem JF_X5_back {E : jx_E} (hB : ∀ o, o < 8 → jB E o) {a1 : Int32} {M : jx_M} {r : Int32} {M' : jx_M} (hF : F_X5_back a1 M = some (r, M')) : jC E yX5_back cX5_back 2 (some FieldType.int) rm_X5_back [.ref (ja E 0 0), .int a1] M (fun x M'' => x = some (.int r) ∧ M'' = M') := by
  refine jC.ofJ (L := [(0, .ref (ja E 0 0)), (1, .int a1)]) (by decide +kernel) (Nat.le_of_ble_eq_true rfl) rfl ?_
  unfold F_X5_back at hF
  refine jr_iload_n 1 dX5_back_0 rfl rfl rfl ?_
  refine jr_if_lt 15 dX5_back_1 (by decide) rfl (fun c1 => ?_) (fun c1 => ?_)
  · have hF := jif_p hF c1
    refine jr_bipush (v := (-2)) dX5_back_15 (by decide) rfl ?_
    exact jh_iret rfl dX5_back_17 hF
  · have hF := jif_n hF c1
    refine jr_iload_n 1 dX5_back_4 rfl rfl rfl ?_
    refine jr_aload_n 0 dX5_back_5 rfl rfl rfl ?_
    refine gf_X5_35 rfl rfl (hB 0 (by decide)) dX5_back_6 rfl ?_
    refine gf_X5_111 rfl rfl (hB 4 (by decide)) dX5_back_9 rfl ?_
    refine jr_icmp_le 18 dX5_back_12 (by decide) rfl (fun c1 => ?_) (fun c1 => ?_)
    · have hF := jif_p hF c1
      refine jr_aload_n 0 dX5_back_18 rfl rfl rfl ?_
      refine gf_X5_35 rfl rfl (hB 0 (by decide)) dX5_back_19 rfl ?_
      refine jr_dup dX5_back_22 rfl rfl ?_
      refine gf_X5_111 rfl rfl (hB 4 (by decide)) dX5_back_23 rfl ?_
      refine jr_iload_n 1 dX5_back_26 rfl rfl rfl ?_
      refine jr_isub dX5_back_27 rfl ?_
      refine pf_X5_111 rfl rfl (hB 4 (by decide)) dX5_back_28 ⟨rfl, rfl⟩ rfl (fun M_1 eM_1 => ?_)
      have hF := jlet_e hF M_1 eM_1
      refine jr_aload_n 0 dX5_back_31 rfl rfl rfl ?_
      refine gf_X5_35 rfl rfl (hB 0 (by decide)) dX5_back_32 rfl ?_
      refine gf_X5_111 rfl rfl (hB 4 (by decide)) dX5_back_35 rfl ?_
      exact jh_iret rfl dX5_back_38 hF
    · have hF := jif_n hF c1
      refine jr_bipush (v := (-2)) dX5_back_15 (by decide) rfl ?_
      exact jh_iret rfl dX5_back_17 hF
set_option maxHeartbeats 4000000 in
set_option maxRecDepth 100000 in
theorem JF_X5_allAreSo {E : jx_E} (hB : ∀ o, o < 8 → jB E o) {M : jx_M} {r : Int32} {M' : jx_M} (hF : F_X5_allAreSo  M = some (r, M')) : jC E yX5_allAreSo cX5_allAreSo 1 (some FieldType.boolean) rm_X5_allAreSo [.ref (ja E 0 0)] M (fun x M'' => x = some (.int r) ∧ M'' = M') := by
  refine jC.ofJ (L := [(0, .ref (ja E 0 0))]) (by decide +kernel) (Nat.le_of_ble_eq_true rfl) rfl ?_
  unfold F_X5_allAreSo at hF
  refine jr_aload_n 0 dX5_allAreSo_0 rfl rfl rfl ?_
  refine gf_X5_51 rfl rfl (hB 0 (by decide)) dX5_allAreSo_1 rfl ?_
  refine jr_aload_n 0 dX5_allAreSo_4 rfl rfl rfl ?_
  refine gf_X5_48 rfl rfl (hB 0 (by decide)) dX5_allAreSo_5 rfl ?_
  refine jr_aload_n 0 dX5_allAreSo_8 rfl rfl rfl ?_
  refine gf_X5_35 rfl rfl (hB 0 (by decide)) dX5_allAreSo_9 rfl ?_
  obtain ⟨r_1, M_1, hc_1, hF⟩ := jbd_e hF
  refine jh_callV1 (v := .int r_1) (o := 4) (as := []) (st := [.ref (ja E 6 0), .ref (ja E 7 0)]) (JF_X3_lastDecade hB hc_1) cw_X5_270 (iv_X3_lastDecade) ⟨rfl, rfl, by decide, by decide⟩ rfl (hB 4 (by decide)) rfl rfl (Nat.le_of_ble_eq_true rfl) dX5_allAreSo_12 rfl ?_
  refine jr_sipush (v := 1000) dX5_allAreSo_15 (by decide) rfl ?_
  obtain ⟨r_2, M_2, hc_2, hF⟩ := jbd_e hF
  refine jh_callV0 (o := 7) (as := [.ref (ja E 6 0), .int r_1, .int 1000]) (st := []) (JF_X0_run hB (Or.inr rfl) (Or.inr rfl) hc_2) cw_X5_204 (iv_X0_run) ⟨rfl, rfl, by decide, by decide⟩ rfl (hB 7 (by decide)) rfl rfl (Nat.le_of_ble_eq_true rfl) dX5_allAreSo_18 rfl ?_
  refine jr_aload_n 0 dX5_allAreSo_21 rfl rfl rfl ?_
  refine gf_X5_35 rfl rfl (hB 0 (by decide)) dX5_allAreSo_22 rfl ?_
  refine jr_aload_n 0 dX5_allAreSo_25 rfl rfl rfl ?_
  refine gf_X5_51 rfl rfl (hB 0 (by decide)) dX5_allAreSo_26 rfl ?_
  obtain ⟨r_3, M_3, hc_3, hF⟩ := jbd_e hF
  refine jh_callV1 (v := .int r_3) (o := 4) (as := [.ref (ja E 7 0)]) (st := []) (JF_X3_areSo hB (Or.inr rfl) hc_3) cw_X5_273 (iv_X3_areSo) ⟨rfl, rfl, by decide, by decide⟩ rfl (hB 4 (by decide)) rfl rfl (Nat.le_of_ble_eq_true rfl) dX5_allAreSo_29 rfl ?_
  obtain ⟨hb_1, hF⟩ := jck_e hF
  exact jh_zret rfl (jin_2 hb_1) dX5_allAreSo_32 hF
set_option maxHeartbeats 4000000 in
set_option maxRecDepth 100000 in
theorem JL_X5_laws_14 {E : jx_E} (hB : ∀ o, o < 8 → jB E o) {k : Int32 → jx_M → Option (Int32 × jx_M)} {r : Int32} {M' : jx_M} (hk : ∀ (z1 : Int32) (M : jx_M), k z1 M = some (r, M') → jJ E yX5_laws cX5_laws 3 (some FieldType.int) rm_X5_laws (fun x M'' => x = some (.int r) ∧ M'' = M') 57 [(1, .int z1)] [] M) : ∀ (n : Nat) (z1 : Int32) (z2 : Int32) (M : jx_M), L_X5_laws_14 k n z1 z2 M = some (r, M') → jJ E yX5_laws cX5_laws 3 (some FieldType.int) rm_X5_laws (fun x M'' => x = some (.int r) ∧ M'' = M') 14 [(0, .ref (ja E 0 0)), (1, .int z1), (2, .int z2)] [] M := by
  intro n
  induction n with
  | zero => intro z1 z2 M hF; exact nomatch (show (none : Option (Int32 × jx_M)) = some _ from hF)
  | succ n ih =>
    intro z1 z2 M hF
    rw [L_X5_laws_14.eq_2] at hF
    refine jr_iload_n 2 dX5_laws_14 rfl rfl rfl ?_
    refine jr_iconst (v := 3) dX5_laws_15 (by decide) rfl ?_
    refine jr_icmp_ge 57 dX5_laws_16 (by decide) rfl (fun c1 => ?_) (fun c1 => ?_)
    · have hF := jif_p hF c1
      refine jr_sub [1] rfl ?_
      exact hk z1 M hF
    · have hF := jif_n hF c1
      refine jr_aload_n 0 dX5_laws_19 rfl rfl rfl ?_
      refine gf_X5_48 rfl rfl (hB 0 (by decide)) dX5_laws_20 rfl ?_
      refine jr_aload_n 0 dX5_laws_23 rfl rfl rfl ?_
      refine gf_X5_28 rfl rfl (hB 0 (by decide)) dX5_laws_24 rfl ?_
      obtain ⟨r_2, M_2, hc_2, hF⟩ := jbd_e hF
      refine jh_callV0 (o := 6) (as := [.ref (ja E 3 0)]) (st := []) (JF_X2_takeOver hB (Or.inr rfl) (Or.inl rfl) hc_2) cw_X5_214 (iv_X2_takeOver) ⟨rfl, rfl, by decide, by decide⟩ rfl (hB 6 (by decide)) rfl rfl (Nat.le_of_ble_eq_true rfl) dX5_laws_27 rfl ?_
      refine jr_aload_n 0 dX5_laws_30 rfl rfl rfl ?_
      refine gf_X5_48 rfl rfl (hB 0 (by decide)) dX5_laws_31 rfl ?_
      refine jr_iload_n 2 dX5_laws_34 rfl rfl rfl ?_
      refine pf_X5_148 rfl rfl (hB 6 (by decide)) dX5_laws_35 ⟨rfl, rfl⟩ rfl (fun M_3 eM_3 => ?_)
      have hF := jlet_e hF M_3 eM_3
      refine jr_aload_n 0 dX5_laws_38 rfl rfl rfl ?_
      obtain ⟨r_3, M_4, hc_3, hF⟩ := jbd_e hF
      refine jh_callV1 (v := .int r_3) (o := 0) (as := []) (st := []) (JF_X5_allAreSo hB hc_3) cw_X5_218 (iv_X5_allAreSo) ⟨rfl, rfl, by decide, by decide⟩ rfl (hB 0 (by decide)) rfl rfl (Nat.le_of_ble_eq_true rfl) dX5_laws_39 rfl ?_
      refine jr_if_eq 51 dX5_laws_42 (by decide) rfl (fun c1 => ?_) (fun c1 => ?_)
      · have hF := jif_p hF c1
        obtain ⟨x2_1, ex2_1⟩ : ∃ z : Int32, z = z2 + 1 := ⟨_, rfl⟩
        have hF := jlet_e hF x2_1 ex2_1
        refine jr_iinc (v := x2_1) (L' := [(2, .int x2_1), (0, .ref (ja E 0 0)), (1, .int z1)]) 2 dX5_laws_51 rfl (by rw [ex2_1]; rfl) (by decide) rfl rfl ?_
        refine jr_goto 14 dX5_laws_54 (by decide) ?_
        refine jr_sub [1, 2, 0] rfl ?_
        exact ih z1 x2_1 M_4 hF
      · have hF := jif_n hF c1
        refine jr_iload_n 1 dX5_laws_45 rfl rfl rfl ?_
        refine jr_iconst (v := 1) dX5_laws_46 (by decide) rfl ?_
        refine jr_iload_n 2 dX5_laws_47 rfl rfl rfl ?_
        refine jr_ishl dX5_laws_48 rfl ?_
        refine jr_ior dX5_laws_49 rfl ?_
        refine jr_topi (fun x1_1 ex1_1 => ?_)
        have hF := jlet_e hF x1_1 ex1_1
        refine jr_istore_n (L' := [(1, .int x1_1), (0, .ref (ja E 0 0)), (2, .int z2)]) dX5_laws_50 rfl (by decide) rfl rfl ?_
        obtain ⟨x2_2, ex2_2⟩ : ∃ z : Int32, z = z2 + 1 := ⟨_, rfl⟩
        have hF := jlet_e hF x2_2 ex2_2
        refine jr_iinc (v := x2_2) (L' := [(2, .int x2_2), (1, .int x1_1), (0, .ref (ja E 0 0))]) 2 dX5_laws_51 rfl (by rw [ex2_2]; rfl) (by decide) rfl rfl ?_
        refine jr_goto 14 dX5_laws_54 (by decide) ?_
        refine jr_sub [2, 1, 0] rfl ?_
        exact ih x1_1 x2_2 M_4 hF
set_option maxHeartbeats 4000000 in
set_option maxRecDepth 100000 in
theorem JF_X5_laws {E : jx_E} (hB : ∀ o, o < 8 → jB E o) {M : jx_M} {r : Int32} {M' : jx_M} (hF : F_X5_laws  M = some (r, M')) : jC E yX5_laws cX5_laws 3 (some FieldType.int) rm_X5_laws [.ref (ja E 0 0)] M (fun x M'' => x = some (.int r) ∧ M'' = M') := by
  refine jC.ofJ (L := [(0, .ref (ja E 0 0))]) (by decide +kernel) (Nat.le_of_ble_eq_true rfl) rfl ?_
  unfold F_X5_laws at hF
  refine jr_aload_n 0 dX5_laws_0 rfl rfl rfl ?_
  obtain ⟨r_1, M_1, hc_1, hF⟩ := jbd_e hF
  refine jh_callV1 (v := .int r_1) (o := 0) (as := []) (st := []) (JF_X5_isLand hB hc_1) cw_X5_144 (iv_X5_isLand) ⟨rfl, rfl, by decide, by decide⟩ rfl (hB 0 (by decide)) rfl rfl (Nat.le_of_ble_eq_true rfl) dX5_laws_1 rfl ?_
  refine jr_if_ne 10 dX5_laws_4 (by decide) rfl (fun c1 => ?_) (fun c1 => ?_)
  · have hF := jif_n hF c1
    refine jr_iconst (v := 0) dX5_laws_10 (by decide) rfl ?_
    refine jr_istore_n (L' := [(1, .int 0), (0, .ref (ja E 0 0))]) dX5_laws_11 rfl (by decide) rfl rfl ?_
    refine jr_iconst (v := 0) dX5_laws_12 (by decide) rfl ?_
    refine jr_istore_n (L' := [(2, .int 0), (1, .int 0), (0, .ref (ja E 0 0))]) dX5_laws_13 rfl (by decide) rfl rfl ?_
    refine jr_sub [2, 1, 0] rfl ?_
    refine JL_X5_laws_14 hB (fun x1_2 M_5 hF => ?_) jfu 0 0 M_1 hF
    refine jr_iload_n 0 dX5_laws_57 rfl rfl rfl ?_
    exact jh_iret rfl dX5_laws_58 hF
  · have hF := jif_p hF c1
    refine jr_bipush (v := (-3)) dX5_laws_7 (by decide) rfl ?_
    exact jh_iret rfl dX5_laws_9 hF
set_option maxHeartbeats 4000000 in
set_option maxRecDepth 100000 in
theorem JL_X5_stubborn_14 {E : jx_E} (hB : ∀ o, o < 8 → jB E o) {k : Int32 → jx_M → Option (Int32 × jx_M)} {r : Int32} {M' : jx_M} (hk : ∀ (z1 : Int32) (M : jx_M), k z1 M = some (r, M') → jJ E yX5_stubborn cX5_stubborn 3 (some FieldType.int) rm_X5_stubborn (fun x M'' => x = some (.int r) ∧ M'' = M') 70 [(1, .int z1)] [] M) : ∀ (n : Nat) (z1 : Int32) (z2 : Int32) (M : jx_M), L_X5_stubborn_14 k n z1 z2 M = some (r, M') → jJ E yX5_stubborn cX5_stubborn 3 (some FieldType.int) rm_X5_stubborn (fun x M'' => x = some (.int r) ∧ M'' = M') 14 [(0, .ref (ja E 0 0)), (1, .int z1), (2, .int z2)] [] M := by
  intro n
  induction n with
  | zero => intro z1 z2 M hF; exact nomatch (show (none : Option (Int32 × jx_M)) = some _ from hF)
  | succ n ih =>
    intro z1 z2 M hF
    rw [L_X5_stubborn_14.eq_2] at hF
    refine jr_iload_n 2 dX5_stubborn_14 rfl rfl rfl ?_
    refine jr_aload_n 0 dX5_stubborn_15 rfl rfl rfl ?_
    refine gf_X5_21 rfl rfl (hB 0 (by decide)) dX5_stubborn_16 rfl ?_
    refine gf_X5_117 rfl rfl (hB 2 (by decide)) dX5_stubborn_19 rfl ?_
    refine jr_icmp_ge 70 dX5_stubborn_22 (by decide) rfl (fun c1 => ?_) (fun c1 => ?_)
    · have hF := jif_p hF c1
      refine jr_sub [1] rfl ?_
      exact hk z1 M hF
    · have hF := jif_n hF c1
      refine jr_aload_n 0 dX5_stubborn_25 rfl rfl rfl ?_
      refine gf_X5_48 rfl rfl (hB 0 (by decide)) dX5_stubborn_26 rfl ?_
      refine jr_aload_n 0 dX5_stubborn_29 rfl rfl rfl ?_
      refine gf_X5_28 rfl rfl (hB 0 (by decide)) dX5_stubborn_30 rfl ?_
      obtain ⟨r_2, M_2, hc_2, hF⟩ := jbd_e hF
      refine jh_callV0 (o := 6) (as := [.ref (ja E 3 0)]) (st := []) (JF_X2_takeOver hB (Or.inr rfl) (Or.inl rfl) hc_2) cw_X5_214 (iv_X2_takeOver) ⟨rfl, rfl, by decide, by decide⟩ rfl (hB 6 (by decide)) rfl rfl (Nat.le_of_ble_eq_true rfl) dX5_stubborn_33 rfl ?_
      refine jr_aload_n 0 dX5_stubborn_36 rfl rfl rfl ?_
      refine gf_X5_48 rfl rfl (hB 0 (by decide)) dX5_stubborn_37 rfl ?_
      refine jr_dup dX5_stubborn_40 rfl rfl ?_
      refine gf_X5_141 rfl rfl (hB 6 (by decide)) dX5_stubborn_41 rfl ?_
      refine jr_iconst (v := 1) dX5_stubborn_44 (by decide) rfl ?_
      refine jr_iload_n 2 dX5_stubborn_45 rfl rfl rfl ?_
      refine jr_ishl dX5_stubborn_46 rfl ?_
      refine jr_ior dX5_stubborn_47 rfl ?_
      refine pf_X5_141 rfl rfl (hB 6 (by decide)) dX5_stubborn_48 ⟨rfl, rfl⟩ rfl (fun M_3 eM_3 => ?_)
      have hF := jlet_e hF M_3 eM_3
      refine jr_aload_n 0 dX5_stubborn_51 rfl rfl rfl ?_
      obtain ⟨r_3, M_4, hc_3, hF⟩ := jbd_e hF
      refine jh_callV1 (v := .int r_3) (o := 0) (as := []) (st := []) (JF_X5_allAreSo hB hc_3) cw_X5_218 (iv_X5_allAreSo) ⟨rfl, rfl, by decide, by decide⟩ rfl (hB 0 (by decide)) rfl rfl (Nat.le_of_ble_eq_true rfl) dX5_stubborn_52 rfl ?_
      refine jr_if_eq 64 dX5_stubborn_55 (by decide) rfl (fun c1 => ?_) (fun c1 => ?_)
      · have hF := jif_p hF c1
        obtain ⟨x2_1, ex2_1⟩ : ∃ z : Int32, z = z2 + 1 := ⟨_, rfl⟩
        have hF := jlet_e hF x2_1 ex2_1
        refine jr_iinc (v := x2_1) (L' := [(2, .int x2_1), (0, .ref (ja E 0 0)), (1, .int z1)]) 2 dX5_stubborn_64 rfl (by rw [ex2_1]; rfl) (by decide) rfl rfl ?_
        refine jr_goto 14 dX5_stubborn_67 (by decide) ?_
        refine jr_sub [1, 2, 0] rfl ?_
        exact ih z1 x2_1 M_4 hF
      · have hF := jif_n hF c1
        refine jr_iload_n 1 dX5_stubborn_58 rfl rfl rfl ?_
        refine jr_iconst (v := 1) dX5_stubborn_59 (by decide) rfl ?_
        refine jr_iload_n 2 dX5_stubborn_60 rfl rfl rfl ?_
        refine jr_ishl dX5_stubborn_61 rfl ?_
        refine jr_ior dX5_stubborn_62 rfl ?_
        refine jr_topi (fun x1_1 ex1_1 => ?_)
        have hF := jlet_e hF x1_1 ex1_1
        refine jr_istore_n (L' := [(1, .int x1_1), (0, .ref (ja E 0 0)), (2, .int z2)]) dX5_stubborn_63 rfl (by decide) rfl rfl ?_
        obtain ⟨x2_2, ex2_2⟩ : ∃ z : Int32, z = z2 + 1 := ⟨_, rfl⟩
        have hF := jlet_e hF x2_2 ex2_2
        refine jr_iinc (v := x2_2) (L' := [(2, .int x2_2), (1, .int x1_1), (0, .ref (ja E 0 0))]) 2 dX5_stubborn_64 rfl (by rw [ex2_2]; rfl) (by decide) rfl rfl ?_
        refine jr_goto 14 dX5_stubborn_67 (by decide) ?_
        refine jr_sub [2, 1, 0] rfl ?_
        exact ih x1_1 x2_2 M_4 hF
set_option maxHeartbeats 4000000 in
set_option maxRecDepth 100000 in
theorem JF_X5_stubborn {E : jx_E} (hB : ∀ o, o < 8 → jB E o) {M : jx_M} {r : Int32} {M' : jx_M} (hF : F_X5_stubborn  M = some (r, M')) : jC E yX5_stubborn cX5_stubborn 3 (some FieldType.int) rm_X5_stubborn [.ref (ja E 0 0)] M (fun x M'' => x = some (.int r) ∧ M'' = M') := by
  refine jC.ofJ (L := [(0, .ref (ja E 0 0))]) (by decide +kernel) (Nat.le_of_ble_eq_true rfl) rfl ?_
  unfold F_X5_stubborn at hF
  refine jr_aload_n 0 dX5_stubborn_0 rfl rfl rfl ?_
  obtain ⟨r_1, M_1, hc_1, hF⟩ := jbd_e hF
  refine jh_callV1 (v := .int r_1) (o := 0) (as := []) (st := []) (JF_X5_isLand hB hc_1) cw_X5_144 (iv_X5_isLand) ⟨rfl, rfl, by decide, by decide⟩ rfl (hB 0 (by decide)) rfl rfl (Nat.le_of_ble_eq_true rfl) dX5_stubborn_1 rfl ?_
  refine jr_if_ne 10 dX5_stubborn_4 (by decide) rfl (fun c1 => ?_) (fun c1 => ?_)
  · have hF := jif_n hF c1
    refine jr_iconst (v := 0) dX5_stubborn_10 (by decide) rfl ?_
    refine jr_istore_n (L' := [(1, .int 0), (0, .ref (ja E 0 0))]) dX5_stubborn_11 rfl (by decide) rfl rfl ?_
    refine jr_iconst (v := 0) dX5_stubborn_12 (by decide) rfl ?_
    refine jr_istore_n (L' := [(2, .int 0), (1, .int 0), (0, .ref (ja E 0 0))]) dX5_stubborn_13 rfl (by decide) rfl rfl ?_
    refine jr_sub [2, 1, 0] rfl ?_
    refine JL_X5_stubborn_14 hB (fun x1_2 M_5 hF => ?_) jfu 0 0 M_1 hF
    refine jr_iload_n 0 dX5_stubborn_70 rfl rfl rfl ?_
    exact jh_iret rfl dX5_stubborn_71 hF
  · have hF := jif_p hF c1
    refine jr_bipush (v := (-3)) dX5_stubborn_7 (by decide) rfl ?_
    exact jh_iret rfl dX5_stubborn_9 hF
set_option maxHeartbeats 4000000 in
set_option maxRecDepth 100000 in
theorem JL_X5_named_25 {E : jx_E} (hB : ∀ o, o < 8 → jB E o) {y1 : Int32} {y2 : Int32} {k : Int32 → jx_M → Option (Int32 × jx_M)} {r : Int32} {M' : jx_M} (hk : ∀ (z3 : Int32) (M : jx_M), k z3 M = some (r, M') → jJ E yX5_named cX5_named 5 (some FieldType.int) rm_X5_named (fun x M'' => x = some (.int r) ∧ M'' = M') 79 [(3, .int z3)] [] M) : ∀ (n : Nat) (z3 : Int32) (z4 : Int32) (M : jx_M), L_X5_named_25 y1 y2 k n z3 z4 M = some (r, M') → jJ E yX5_named cX5_named 5 (some FieldType.int) rm_X5_named (fun x M'' => x = some (.int r) ∧ M'' = M') 25 [(0, .ref (ja E 0 0)), (1, .int y1), (2, .int y2), (3, .int z3), (4, .int z4)] [] M := by
  intro n
  induction n with
  | zero => intro z3 z4 M hF; exact nomatch (show (none : Option (Int32 × jx_M)) = some _ from hF)
  | succ n ih =>
    intro z3 z4 M hF
    rw [L_X5_named_25.eq_2] at hF
    refine jr_iload 4 dX5_named_25 rfl rfl ?_
    refine jr_aload_n 0 dX5_named_27 rfl rfl rfl ?_
    refine gf_X5_21 rfl rfl (hB 0 (by decide)) dX5_named_28 rfl ?_
    refine gf_X5_117 rfl rfl (hB 2 (by decide)) dX5_named_31 rfl ?_
    refine jr_icmp_ge 79 dX5_named_34 (by decide) rfl (fun c1 => ?_) (fun c1 => ?_)
    · have hF := jif_p hF c1
      refine jr_sub [3] rfl ?_
      exact hk z3 M hF
    · have hF := jif_n hF c1
      refine jr_aload_n 0 dX5_named_37 rfl rfl rfl ?_
      refine gf_X5_48 rfl rfl (hB 0 (by decide)) dX5_named_38 rfl ?_
      refine jr_aload_n 0 dX5_named_41 rfl rfl rfl ?_
      refine gf_X5_28 rfl rfl (hB 0 (by decide)) dX5_named_42 rfl ?_
      obtain ⟨r_3, M_3, hc_3, hF⟩ := jbd_e hF
      refine jh_callV0 (o := 6) (as := [.ref (ja E 3 0)]) (st := []) (JF_X2_takeOver hB (Or.inr rfl) (Or.inl rfl) hc_3) cw_X5_214 (iv_X2_takeOver) ⟨rfl, rfl, by decide, by decide⟩ rfl (hB 6 (by decide)) rfl rfl (Nat.le_of_ble_eq_true rfl) dX5_named_45 rfl ?_
      refine jr_aload_n 0 dX5_named_48 rfl rfl rfl ?_
      refine gf_X5_48 rfl rfl (hB 0 (by decide)) dX5_named_49 rfl ?_
      refine jr_iload_n 1 dX5_named_52 rfl rfl rfl ?_
      refine jr_iload 4 dX5_named_53 rfl rfl ?_
      refine jr_iload_n 2 dX5_named_55 rfl rfl rfl ?_
      obtain ⟨r_4, M_4, hc_4, hF⟩ := jbd_e hF
      refine jh_callV0 (o := 6) (as := [.int y1, .int z4, .int y2]) (st := []) (JF_X2_addWill hB (Or.inr rfl) hc_4) cw_X5_160 (iv_X2_addWill) ⟨rfl, rfl, by decide, by decide⟩ rfl (hB 6 (by decide)) rfl rfl (Nat.le_of_ble_eq_true rfl) dX5_named_56 rfl ?_
      refine jr_aload_n 0 dX5_named_59 rfl rfl rfl ?_
      obtain ⟨r_5, M_5, hc_5, hF⟩ := jbd_e hF
      refine jh_callV1 (v := .int r_5) (o := 0) (as := []) (st := []) (JF_X5_allAreSo hB hc_5) cw_X5_218 (iv_X5_allAreSo) ⟨rfl, rfl, by decide, by decide⟩ rfl (hB 0 (by decide)) rfl rfl (Nat.le_of_ble_eq_true rfl) dX5_named_60 rfl ?_
      refine jr_if_eq 73 dX5_named_63 (by decide) rfl (fun c1 => ?_) (fun c1 => ?_)
      · have hF := jif_p hF c1
        obtain ⟨x4_1, ex4_1⟩ : ∃ z : Int32, z = z4 + 1 := ⟨_, rfl⟩
        have hF := jlet_e hF x4_1 ex4_1
        refine jr_iinc (v := x4_1) (L' := [(4, .int x4_1), (0, .ref (ja E 0 0)), (1, .int y1), (2, .int y2), (3, .int z3)]) 4 dX5_named_73 rfl (by rw [ex4_1]; rfl) (by decide) rfl rfl ?_
        refine jr_goto 25 dX5_named_76 (by decide) ?_
        refine jr_sub [1, 2, 3, 4, 0] rfl ?_
        exact ih z3 x4_1 M_5 hF
      · have hF := jif_n hF c1
        refine jr_iload_n 3 dX5_named_66 rfl rfl rfl ?_
        refine jr_iconst (v := 1) dX5_named_67 (by decide) rfl ?_
        refine jr_iload 4 dX5_named_68 rfl rfl ?_
        refine jr_ishl dX5_named_70 rfl ?_
        refine jr_ior dX5_named_71 rfl ?_
        refine jr_topi (fun x3_1 ex3_1 => ?_)
        have hF := jlet_e hF x3_1 ex3_1
        refine jr_istore_n (L' := [(3, .int x3_1), (0, .ref (ja E 0 0)), (1, .int y1), (2, .int y2), (4, .int z4)]) dX5_named_72 rfl (by decide) rfl rfl ?_
        obtain ⟨x4_2, ex4_2⟩ : ∃ z : Int32, z = z4 + 1 := ⟨_, rfl⟩
        have hF := jlet_e hF x4_2 ex4_2
        refine jr_iinc (v := x4_2) (L' := [(4, .int x4_2), (3, .int x3_1), (0, .ref (ja E 0 0)), (1, .int y1), (2, .int y2)]) 4 dX5_named_73 rfl (by rw [ex4_2]; rfl) (by decide) rfl rfl ?_
        refine jr_goto 25 dX5_named_76 (by decide) ?_
        refine jr_sub [2, 3, 4, 1, 0] rfl ?_
        exact ih x3_1 x4_2 M_5 hF
set_option maxHeartbeats 4000000 in
set_option maxRecDepth 100000 in
theorem JF_X5_named {E : jx_E} (hB : ∀ o, o < 8 → jB E o) {a1 : Int32} {a2 : Int32} {M : jx_M} {r : Int32} {M' : jx_M} (hF : F_X5_named a1 a2 M = some (r, M')) : jC E yX5_named cX5_named 5 (some FieldType.int) rm_X5_named [.ref (ja E 0 0), .int a1, .int a2] M (fun x M'' => x = some (.int r) ∧ M'' = M') := by
  refine jC.ofJ (L := [(0, .ref (ja E 0 0)), (1, .int a1), (2, .int a2)]) (by decide +kernel) (Nat.le_of_ble_eq_true rfl) rfl ?_
  unfold F_X5_named at hF
  refine jr_aload_n 0 dX5_named_0 rfl rfl rfl ?_
  refine jr_iload_n 1 dX5_named_1 rfl rfl rfl ?_
  obtain ⟨r_1, M_1, hc_1, hF⟩ := jbd_e hF
  refine jh_callV1 (v := .int r_1) (o := 0) (as := [.int a1]) (st := []) (JF_X5_isPost hB hc_1) cw_X5_151 (iv_X5_isPost) ⟨rfl, rfl, by decide, by decide⟩ rfl (hB 0 (by decide)) rfl rfl (Nat.le_of_ble_eq_true rfl) dX5_named_2 rfl ?_
  refine jr_if_ne 10 dX5_named_5 (by decide) rfl (fun c1 => ?_) (fun c1 => ?_)
  · have hF := jif_n hF c1
    refine jr_iload_n 2 dX5_named_10 rfl rfl rfl ?_
    obtain ⟨r_2, M_2, hc_2, hF⟩ := jbd_e hF
    refine jh_callS1 (v := .int r_2) (as := [.int a2]) (st := []) (JF_X5_isDecade hB hc_2) cw_X5_154 (iv_X5_isDecade) ⟨rfl, rfl, by decide, by decide⟩ rfl rfl (Nat.le_of_ble_eq_true rfl) dX5_named_11 rfl ?_
    refine jr_if_ne 20 dX5_named_14 (by decide) rfl (fun c1 => ?_) (fun c1 => ?_)
    · have hF := jif_n hF c1
      refine jr_iconst (v := 0) dX5_named_20 (by decide) rfl ?_
      refine jr_istore_n (L' := [(3, .int 0), (0, .ref (ja E 0 0)), (1, .int a1), (2, .int a2)]) dX5_named_21 rfl (by decide) rfl rfl ?_
      refine jr_iconst (v := 0) dX5_named_22 (by decide) rfl ?_
      refine jr_istore (L' := [(4, .int 0), (3, .int 0), (0, .ref (ja E 0 0)), (1, .int a1), (2, .int a2)]) dX5_named_23 (by decide) rfl rfl ?_
      refine jr_sub [2, 3, 4, 1, 0] rfl ?_
      refine JL_X5_named_25 hB (fun x3_2 M_6 hF => ?_) jfu 0 0 M_2 hF
      refine jr_iload_n 0 dX5_named_79 rfl rfl rfl ?_
      exact jh_iret rfl dX5_named_80 hF
    · have hF := jif_p hF c1
      refine jr_bipush (v := (-2)) dX5_named_17 (by decide) rfl ?_
      exact jh_iret rfl dX5_named_19 hF
  · have hF := jif_p hF c1
    refine jr_iconst (v := (-1)) dX5_named_8 (by decide) rfl ?_
    exact jh_iret rfl dX5_named_9 hF
set_option maxHeartbeats 4000000 in
set_option maxRecDepth 100000 in
theorem JL_X5_opened_14 {E : jx_E} (hB : ∀ o, o < 8 → jB E o) {k : Int32 → jx_M → Option (Int32 × jx_M)} {r : Int32} {M' : jx_M} (hk : ∀ (z1 : Int32) (M : jx_M), k z1 M = some (r, M') → jJ E yX5_opened cX5_opened 3 (some FieldType.int) rm_X5_opened (fun x M'' => x = some (.int r) ∧ M'' = M') 66 [(1, .int z1)] [] M) : ∀ (n : Nat) (z1 : Int32) (z2 : Int32) (M : jx_M), L_X5_opened_14 k n z1 z2 M = some (r, M') → jJ E yX5_opened cX5_opened 3 (some FieldType.int) rm_X5_opened (fun x M'' => x = some (.int r) ∧ M'' = M') 14 [(0, .ref (ja E 0 0)), (1, .int z1), (2, .int z2)] [] M := by
  intro n
  induction n with
  | zero => intro z1 z2 M hF; exact nomatch (show (none : Option (Int32 × jx_M)) = some _ from hF)
  | succ n ih =>
    intro z1 z2 M hF
    rw [L_X5_opened_14.eq_2] at hF
    refine jr_iload_n 2 dX5_opened_14 rfl rfl rfl ?_
    refine jr_aload_n 0 dX5_opened_15 rfl rfl rfl ?_
    refine gf_X5_21 rfl rfl (hB 0 (by decide)) dX5_opened_16 rfl ?_
    refine gf_X5_221 rfl rfl (hB 2 (by decide)) dX5_opened_19 rfl ?_
    refine jr_icmp_ge 66 dX5_opened_22 (by decide) rfl (fun c1 => ?_) (fun c1 => ?_)
    · have hF := jif_p hF c1
      refine jr_sub [1] rfl ?_
      exact hk z1 M hF
    · have hF := jif_n hF c1
      refine jr_aload_n 0 dX5_opened_25 rfl rfl rfl ?_
      refine gf_X5_48 rfl rfl (hB 0 (by decide)) dX5_opened_26 rfl ?_
      refine jr_aload_n 0 dX5_opened_29 rfl rfl rfl ?_
      refine gf_X5_28 rfl rfl (hB 0 (by decide)) dX5_opened_30 rfl ?_
      obtain ⟨r_2, M_2, hc_2, hF⟩ := jbd_e hF
      refine jh_callV0 (o := 6) (as := [.ref (ja E 3 0)]) (st := []) (JF_X2_takeOver hB (Or.inr rfl) (Or.inl rfl) hc_2) cw_X5_214 (iv_X2_takeOver) ⟨rfl, rfl, by decide, by decide⟩ rfl (hB 6 (by decide)) rfl rfl (Nat.le_of_ble_eq_true rfl) dX5_opened_33 rfl ?_
      refine jr_aload_n 0 dX5_opened_36 rfl rfl rfl ?_
      refine gf_X5_48 rfl rfl (hB 0 (by decide)) dX5_opened_37 rfl ?_
      refine gf_X5_164 rfl rfl (hB 6 (by decide)) dX5_opened_40 rfl ?_
      refine jr_iload_n 2 dX5_opened_43 rfl rfl rfl ?_
      refine jr_bipush (v := 40) dX5_opened_44 (by decide) rfl ?_
      obtain ⟨hb_1, hF⟩ := jck_e hF
      refine jh_iast (ci := 2) (k := 3) rfl (hB 6 (by decide)) (by decide) rfl rfl hb_1 dX5_opened_46 rfl (fun M_3 eM_3 => ?_)
      have hF := jlet_e hF M_3 eM_3
      refine jr_aload_n 0 dX5_opened_47 rfl rfl rfl ?_
      obtain ⟨r_3, M_4, hc_3, hF⟩ := jbd_e hF
      refine jh_callV1 (v := .int r_3) (o := 0) (as := []) (st := []) (JF_X5_allAreSo hB hc_3) cw_X5_218 (iv_X5_allAreSo) ⟨rfl, rfl, by decide, by decide⟩ rfl (hB 0 (by decide)) rfl rfl (Nat.le_of_ble_eq_true rfl) dX5_opened_48 rfl ?_
      refine jr_if_eq 60 dX5_opened_51 (by decide) rfl (fun c1 => ?_) (fun c1 => ?_)
      · have hF := jif_p hF c1
        obtain ⟨x2_1, ex2_1⟩ : ∃ z : Int32, z = z2 + 1 := ⟨_, rfl⟩
        have hF := jlet_e hF x2_1 ex2_1
        refine jr_iinc (v := x2_1) (L' := [(2, .int x2_1), (0, .ref (ja E 0 0)), (1, .int z1)]) 2 dX5_opened_60 rfl (by rw [ex2_1]; rfl) (by decide) rfl rfl ?_
        refine jr_goto 14 dX5_opened_63 (by decide) ?_
        refine jr_sub [1, 2, 0] rfl ?_
        exact ih z1 x2_1 M_4 hF
      · have hF := jif_n hF c1
        refine jr_iload_n 1 dX5_opened_54 rfl rfl rfl ?_
        refine jr_iconst (v := 1) dX5_opened_55 (by decide) rfl ?_
        refine jr_iload_n 2 dX5_opened_56 rfl rfl rfl ?_
        refine jr_ishl dX5_opened_57 rfl ?_
        refine jr_ior dX5_opened_58 rfl ?_
        refine jr_topi (fun x1_1 ex1_1 => ?_)
        have hF := jlet_e hF x1_1 ex1_1
        refine jr_istore_n (L' := [(1, .int x1_1), (0, .ref (ja E 0 0)), (2, .int z2)]) dX5_opened_59 rfl (by decide) rfl rfl ?_
        obtain ⟨x2_2, ex2_2⟩ : ∃ z : Int32, z = z2 + 1 := ⟨_, rfl⟩
        have hF := jlet_e hF x2_2 ex2_2
        refine jr_iinc (v := x2_2) (L' := [(2, .int x2_2), (1, .int x1_1), (0, .ref (ja E 0 0))]) 2 dX5_opened_60 rfl (by rw [ex2_2]; rfl) (by decide) rfl rfl ?_
        refine jr_goto 14 dX5_opened_63 (by decide) ?_
        refine jr_sub [2, 1, 0] rfl ?_
        exact ih x1_1 x2_2 M_4 hF
set_option maxHeartbeats 4000000 in
set_option maxRecDepth 100000 in
theorem JF_X5_opened {E : jx_E} (hB : ∀ o, o < 8 → jB E o) {M : jx_M} {r : Int32} {M' : jx_M} (hF : F_X5_opened  M = some (r, M')) : jC E yX5_opened cX5_opened 3 (some FieldType.int) rm_X5_opened [.ref (ja E 0 0)] M (fun x M'' => x = some (.int r) ∧ M'' = M') := by
  refine jC.ofJ (L := [(0, .ref (ja E 0 0))]) (by decide +kernel) (Nat.le_of_ble_eq_true rfl) rfl ?_
  unfold F_X5_opened at hF
  refine jr_aload_n 0 dX5_opened_0 rfl rfl rfl ?_
  obtain ⟨r_1, M_1, hc_1, hF⟩ := jbd_e hF
  refine jh_callV1 (v := .int r_1) (o := 0) (as := []) (st := []) (JF_X5_isLand hB hc_1) cw_X5_144 (iv_X5_isLand) ⟨rfl, rfl, by decide, by decide⟩ rfl (hB 0 (by decide)) rfl rfl (Nat.le_of_ble_eq_true rfl) dX5_opened_1 rfl ?_
  refine jr_if_ne 10 dX5_opened_4 (by decide) rfl (fun c1 => ?_) (fun c1 => ?_)
  · have hF := jif_n hF c1
    refine jr_iconst (v := 0) dX5_opened_10 (by decide) rfl ?_
    refine jr_istore_n (L' := [(1, .int 0), (0, .ref (ja E 0 0))]) dX5_opened_11 rfl (by decide) rfl rfl ?_
    refine jr_iconst (v := 0) dX5_opened_12 (by decide) rfl ?_
    refine jr_istore_n (L' := [(2, .int 0), (1, .int 0), (0, .ref (ja E 0 0))]) dX5_opened_13 rfl (by decide) rfl rfl ?_
    refine jr_sub [2, 1, 0] rfl ?_
    refine JL_X5_opened_14 hB (fun x1_2 M_5 hF => ?_) jfu 0 0 M_1 hF
    refine jr_iload_n 0 dX5_opened_66 rfl rfl rfl ?_
    exact jh_iret rfl dX5_opened_67 hF
  · have hF := jif_p hF c1
    refine jr_bipush (v := (-3)) dX5_opened_7 (by decide) rfl ?_
    exact jh_iret rfl dX5_opened_9 hF
set_option maxHeartbeats 4000000 in
set_option maxRecDepth 100000 in
theorem JL_X5_odds_49 {E : jx_E} (hB : ∀ o, o < 8 → jB E o) {y1 : Int32} {y2 : Int32} {y3 : Int32} {k : Int32 → jx_M → Option (Int64 × jx_M)} {r : Int64} {M' : jx_M} (hk : ∀ (z4 : Int32) (M : jx_M), k z4 M = some (r, M') → jJ E yX5_odds cX5_odds 6 (some FieldType.long) rm_X5_odds (fun x M'' => x = some (.long r) ∧ M'' = M') 81 [(2, .int y2), (3, .int y3), (4, .int z4)] [] M) : ∀ (n : Nat) (z4 : Int32) (z5 : Int32) (M : jx_M), L_X5_odds_49 y1 y2 y3 k n z4 z5 M = some (r, M') → jJ E yX5_odds cX5_odds 6 (some FieldType.long) rm_X5_odds (fun x M'' => x = some (.long r) ∧ M'' = M') 49 [(0, .ref (ja E 0 0)), (1, .int y1), (2, .int y2), (3, .int y3), (4, .int z4), (5, .int z5)] [] M := by
  intro n
  induction n with
  | zero => intro z4 z5 M hF; exact nomatch (show (none : Option (Int64 × jx_M)) = some _ from hF)
  | succ n ih =>
    intro z4 z5 M hF
    rw [L_X5_odds_49.eq_2] at hF
    refine jr_iload 5 dX5_odds_49 rfl rfl ?_
    refine jr_aload_n 0 dX5_odds_51 rfl rfl rfl ?_
    refine gf_X5_21 rfl rfl (hB 0 (by decide)) dX5_odds_52 rfl ?_
    obtain ⟨r_5, M_5, hc_5, hF⟩ := jbd_e hF
    refine jh_callV1 (v := .int r_5) (o := 2) (as := []) (st := [.int z5]) (JF_X1_setCount hB hc_5) cw_X5_189 (iv_X1_setCount) ⟨rfl, rfl, by decide, by decide⟩ rfl (hB 2 (by decide)) rfl rfl (Nat.le_of_ble_eq_true rfl) dX5_odds_55 rfl ?_
    refine jr_icmp_ge 81 dX5_odds_58 (by decide) rfl (fun c1 => ?_) (fun c1 => ?_)
    · have hF := jif_p hF c1
      refine jr_sub [2, 3, 4] rfl ?_
      exact hk z4 M_5 hF
    · have hF := jif_n hF c1
      refine jr_aload_n 0 dX5_odds_61 rfl rfl rfl ?_
      refine gf_X5_54 rfl rfl (hB 0 (by decide)) dX5_odds_62 rfl ?_
      refine jr_iload 5 dX5_odds_65 rfl rfl ?_
      obtain ⟨hb_1, hF⟩ := jck_e hF
      refine jh_iald (ci := 5) (k := 7) rfl (hB 0 (by decide)) (by decide) rfl rfl hb_1 dX5_odds_67 rfl ?_
      refine jr_iload_n 1 dX5_odds_68 rfl rfl rfl ?_
      refine jr_icmp_le 75 dX5_odds_69 (by decide) rfl (fun c1 => ?_) (fun c1 => ?_)
      · have hF := jif_p hF c1
        obtain ⟨x5_1, ex5_1⟩ : ∃ z : Int32, z = z5 + 1 := ⟨_, rfl⟩
        have hF := jlet_e hF x5_1 ex5_1
        refine jr_iinc (v := x5_1) (L' := [(5, .int x5_1), (0, .ref (ja E 0 0)), (1, .int y1), (2, .int y2), (3, .int y3), (4, .int z4)]) 5 dX5_odds_75 rfl (by rw [ex5_1]; rfl) (by decide) rfl rfl ?_
        refine jr_goto 49 dX5_odds_78 (by decide) ?_
        refine jr_sub [1, 2, 3, 4, 5, 0] rfl ?_
        exact ih z4 x5_1 M_5 hF
      · have hF := jif_n hF c1
        obtain ⟨x4_1, ex4_1⟩ : ∃ z : Int32, z = z4 + 1 := ⟨_, rfl⟩
        have hF := jlet_e hF x4_1 ex4_1
        refine jr_iinc (v := x4_1) (L' := [(4, .int x4_1), (0, .ref (ja E 0 0)), (1, .int y1), (2, .int y2), (3, .int y3), (5, .int z5)]) 4 dX5_odds_72 rfl (by rw [ex4_1]; rfl) (by decide) rfl rfl ?_
        obtain ⟨x5_2, ex5_2⟩ : ∃ z : Int32, z = z5 + 1 := ⟨_, rfl⟩
        have hF := jlet_e hF x5_2 ex5_2
        refine jr_iinc (v := x5_2) (L' := [(5, .int x5_2), (4, .int x4_1), (0, .ref (ja E 0 0)), (1, .int y1), (2, .int y2), (3, .int y3)]) 5 dX5_odds_75 rfl (by rw [ex5_2]; rfl) (by decide) rfl rfl ?_
        refine jr_goto 49 dX5_odds_78 (by decide) ?_
        refine jr_sub [2, 3, 4, 5, 1, 0] rfl ?_
        exact ih x4_1 x5_2 M_5 hF
set_option maxHeartbeats 4000000 in
set_option maxRecDepth 100000 in
theorem JL_X5_odds_81 {E : jx_E} (hB : ∀ o, o < 8 → jB E o) {y2 : Int32} {k : Int32 → Int32 → jx_M → Option (Int64 × jx_M)} {r : Int64} {M' : jx_M} (hk : ∀ (z3 : Int32) (z4 : Int32) (M : jx_M), k z3 z4 M = some (r, M') → jJ E yX5_odds cX5_odds 6 (some FieldType.long) rm_X5_odds (fun x M'' => x = some (.long r) ∧ M'' = M') 106 [(2, .int y2), (3, .int z3), (4, .int z4)] [] M) : ∀ (n : Nat) (z3 : Int32) (z4 : Int32) (M : jx_M), L_X5_odds_81 y2 k n z3 z4 M = some (r, M') → jJ E yX5_odds cX5_odds 6 (some FieldType.long) rm_X5_odds (fun x M'' => x = some (.long r) ∧ M'' = M') 81 [(2, .int y2), (3, .int z3), (4, .int z4)] [] M := by
  intro n
  induction n with
  | zero => intro z3 z4 M hF; exact nomatch (show (none : Option (Int64 × jx_M)) = some _ from hF)
  | succ n ih =>
    intro z3 z4 M hF
    rw [L_X5_odds_81.eq_2] at hF
    refine jr_iload_n 1 dX5_odds_81 rfl rfl rfl ?_
    refine jr_iconst (v := 1) dX5_odds_82 (by decide) rfl ?_
    refine jr_icmp_le 106 dX5_odds_83 (by decide) rfl (fun c1 => ?_) (fun c1 => ?_)
    · have hF := jif_p hF c1
      refine jr_sub [0, 1, 2] rfl ?_
      exact hk z3 z4 M hF
    · have hF := jif_n hF c1
      refine jr_iload 2 dX5_odds_86 rfl rfl ?_
      refine jr_iconst (v := 2) dX5_odds_88 (by decide) rfl ?_
      refine jr_irem dX5_odds_89 (by decide) rfl ?_
      refine jr_if_ne 106 dX5_odds_90 (by decide) rfl (fun c1 => ?_) (fun c1 => ?_)
      · have hF := jif_n hF c1
        refine jr_sub [0, 1, 2] rfl ?_
        exact hk z3 z4 M hF
      · have hF := jif_p hF c1
        refine jr_iload 2 dX5_odds_93 rfl rfl ?_
        refine jr_iconst (v := 2) dX5_odds_95 (by decide) rfl ?_
        refine jr_idiv dX5_odds_96 (by decide) rfl ?_
        refine jr_topi (fun x4_3 ex4_3 => ?_)
        have hF := jlet_e hF x4_3 ex4_3
        refine jr_istore (L' := [(4, .int x4_3), (2, .int y2), (3, .int z3)]) dX5_odds_97 (by decide) rfl rfl ?_
        refine jr_iload_n 2 dX5_odds_99 rfl rfl rfl ?_
        refine jr_iconst (v := 2) dX5_odds_100 (by decide) rfl ?_
        refine jr_idiv dX5_odds_101 (by decide) rfl ?_
        refine jr_topi (fun x3_1 ex3_1 => ?_)
        have hF := jlet_e hF x3_1 ex3_1
        refine jr_istore_n (L' := [(3, .int x3_1), (4, .int x4_3), (2, .int y2)]) dX5_odds_102 rfl (by decide) rfl rfl ?_
        refine jr_goto 81 dX5_odds_103 (by decide) ?_
        refine jr_sub [2, 0, 1] rfl ?_
        exact ih x3_1 x4_3 M hF
set_option maxHeartbeats 4000000 in
set_option maxRecDepth 100000 in
theorem JF_X5_odds {E : jx_E} (hB : ∀ o, o < 8 → jB E o) {a1 : Int32} {a2 : Int32} {M : jx_M} {r : Int64} {M' : jx_M} (hF : F_X5_odds a1 a2 M = some (r, M')) : jC E yX5_odds cX5_odds 6 (some FieldType.long) rm_X5_odds [.ref (ja E 0 0), .int a1, .int a2] M (fun x M'' => x = some (.long r) ∧ M'' = M') := by
  refine jC.ofJ (L := [(0, .ref (ja E 0 0)), (1, .int a1), (2, .int a2)]) (by decide +kernel) (Nat.le_of_ble_eq_true rfl) rfl ?_
  unfold F_X5_odds at hF
  refine jr_iload_n 1 dX5_odds_0 rfl rfl rfl ?_
  obtain ⟨r_1, M_1, hc_1, hF⟩ := jbd_e hF
  refine jh_callS1 (v := .int r_1) (as := [.int a1]) (st := []) (JF_X5_isDecade hB hc_1) cw_X5_154 (iv_X5_isDecade) ⟨rfl, rfl, by decide, by decide⟩ rfl rfl (Nat.le_of_ble_eq_true rfl) dX5_odds_1 rfl ?_
  refine jr_if_eq 16 dX5_odds_4 (by decide) rfl (fun c1 => ?_) (fun c1 => ?_)
  · have hF := jif_p hF c1
    refine jr_ldc2 (v := (-9223372036854775808)) dX5_odds_16 (List.mem_cons_of_mem _ (lw_g_of 573 (by decide +kernel) (by decide +kernel))) rfl ?_
    exact jh_lret rfl dX5_odds_19 hF
  · have hF := jif_n hF c1
    refine jr_iload_n 2 dX5_odds_7 rfl rfl rfl ?_
    refine jr_if_lt 16 dX5_odds_8 (by decide) rfl (fun c1 => ?_) (fun c1 => ?_)
    · have hF := jif_p hF c1
      refine jr_ldc2 (v := (-9223372036854775808)) dX5_odds_16 (List.mem_cons_of_mem _ (lw_g_of 573 (by decide +kernel) (by decide +kernel))) rfl ?_
      exact jh_lret rfl dX5_odds_19 hF
    · have hF := jif_n hF c1
      refine jr_iload_n 2 dX5_odds_11 rfl rfl rfl ?_
      refine jr_iconst (v := 1) dX5_odds_12 (by decide) rfl ?_
      refine jr_icmp_le 20 dX5_odds_13 (by decide) rfl (fun c1 => ?_) (fun c1 => ?_)
      · have hF := jif_p hF c1
        refine jr_aload_n 0 dX5_odds_20 rfl rfl rfl ?_
        obtain ⟨r_2, M_2, hc_2, hF⟩ := jbd_e hF
        refine jh_callV1 (v := .int r_2) (o := 0) (as := []) (st := []) (JF_X5_isLand hB hc_2) cw_X5_144 (iv_X5_isLand) ⟨rfl, rfl, by decide, by decide⟩ rfl (hB 0 (by decide)) rfl rfl (Nat.le_of_ble_eq_true rfl) dX5_odds_21 rfl ?_
        refine jr_if_ne 31 dX5_odds_24 (by decide) rfl (fun c1 => ?_) (fun c1 => ?_)
        · have hF := jif_n hF c1
          refine jr_aload_n 0 dX5_odds_31 rfl rfl rfl ?_
          obtain ⟨r_3, M_3, hc_3, hF⟩ := jbd_e hF
          refine jh_callV0 (o := 0) (as := []) (st := []) (JF_X5_findFalls hB hc_3) cw_X5_186 (iv_X5_findFalls) ⟨rfl, rfl, by decide, by decide⟩ rfl (hB 0 (by decide)) rfl rfl (Nat.le_of_ble_eq_true rfl) dX5_odds_32 rfl ?_
          refine jr_aload_n 0 dX5_odds_35 rfl rfl rfl ?_
          refine gf_X5_21 rfl rfl (hB 0 (by decide)) dX5_odds_36 rfl ?_
          obtain ⟨r_4, M_4, hc_4, hF⟩ := jbd_e hF
          refine jh_callV1 (v := .int r_4) (o := 2) (as := []) (st := []) (JF_X1_setCount hB hc_4) cw_X5_189 (iv_X1_setCount) ⟨rfl, rfl, by decide, by decide⟩ rfl (hB 2 (by decide)) rfl rfl (Nat.le_of_ble_eq_true rfl) dX5_odds_39 rfl ?_
          refine jr_istore_n (L' := [(3, .int r_4), (0, .ref (ja E 0 0)), (1, .int a1), (2, .int a2)]) dX5_odds_42 rfl (by decide) rfl rfl ?_
          refine jr_iconst (v := 0) dX5_odds_43 (by decide) rfl ?_
          refine jr_istore (L' := [(4, .int 0), (3, .int r_4), (0, .ref (ja E 0 0)), (1, .int a1), (2, .int a2)]) dX5_odds_44 (by decide) rfl rfl ?_
          refine jr_iconst (v := 0) dX5_odds_46 (by decide) rfl ?_
          refine jr_istore (L' := [(5, .int 0), (4, .int 0), (3, .int r_4), (0, .ref (ja E 0 0)), (1, .int a1), (2, .int a2)]) dX5_odds_47 (by decide) rfl rfl ?_
          refine jr_sub [3, 4, 5, 2, 1, 0] rfl ?_
          refine JL_X5_odds_49 hB (fun x4_2 M_6 hF => ?_) jfu 0 0 M_4 hF
          refine jr_sub [0, 1, 2] rfl ?_
          refine JL_X5_odds_81 hB (fun x3_2 x4_4 M_7 hF => ?_) jfu r_4 x4_2 M_6 hF
          refine jr_iload_n 0 dX5_odds_106 rfl rfl rfl ?_
          refine jr_if_ne 116 dX5_odds_107 (by decide) rfl (fun c1 => ?_) (fun c1 => ?_)
          · have hF := jif_n hF c1
            refine jr_iload_n 1 dX5_odds_116 rfl rfl rfl ?_
            refine jr_i2l dX5_odds_117 rfl ?_
            exact jh_lret rfl dX5_odds_118 hF
          · have hF := jif_p hF c1
            refine jr_iload 2 dX5_odds_110 rfl rfl ?_
            refine jr_i2l dX5_odds_112 rfl ?_
            refine jr_goto 118 dX5_odds_113 (by decide) ?_
            exact jh_lret rfl dX5_odds_118 hF
        · have hF := jif_p hF c1
          refine jr_ldc2 (v := (-9223372036854775808)) dX5_odds_27 (List.mem_cons_of_mem _ (lw_g_of 573 (by decide +kernel) (by decide +kernel))) rfl ?_
          exact jh_lret rfl dX5_odds_30 hF
      · have hF := jif_n hF c1
        refine jr_ldc2 (v := (-9223372036854775808)) dX5_odds_16 (List.mem_cons_of_mem _ (lw_g_of 573 (by decide +kernel) (by decide +kernel))) rfl ?_
        exact jh_lret rfl dX5_odds_19 hF
set_option maxHeartbeats 4000000 in
set_option maxRecDepth 100000 in
theorem JF_X5_sheet {E : jx_E} (hB : ∀ o, o < 8 → jB E o) {a1 : Int32} {a2 : Int32} {a3 : Int32} {M : jx_M} {r : Int32} {M' : jx_M} (hF : F_X5_sheet a1 a2 a3 M = some (r, M')) : jC E yX5_sheet cX5_sheet 4 (some FieldType.int) rm_X5_sheet [.ref (ja E 0 0), .int a1, .int a2, .int a3] M (fun x M'' => x = some (.int r) ∧ M'' = M') := by
  refine jC.ofJ (L := [(0, .ref (ja E 0 0)), (1, .int a1), (2, .int a2), (3, .int a3)]) (by decide +kernel) (Nat.le_of_ble_eq_true rfl) rfl ?_
  unfold F_X5_sheet at hF
  refine jr_aload_n 0 dX5_sheet_0 rfl rfl rfl ?_
  refine jr_iconst (v := 0) dX5_sheet_1 (by decide) rfl ?_
  refine pf_X5_75 rfl rfl (hB 0 (by decide)) dX5_sheet_2 ⟨rfl, rfl⟩ rfl (fun M_1 eM_1 => ?_)
  have hF := jlet_e hF M_1 eM_1
  refine jr_iload_n 1 dX5_sheet_5 rfl rfl rfl ?_
  obtain ⟨r_1, M_2, hc_1, hF⟩ := jbd_e hF
  refine jh_callS1 (v := .int r_1) (as := [.int a1]) (st := []) (JF_X5_isSheet hB hc_1) cw_X5_81 (iv_X5_isSheet) ⟨rfl, rfl, by decide, by decide⟩ rfl rfl (Nat.le_of_ble_eq_true rfl) dX5_sheet_6 rfl ?_
  refine jr_if_ne 14 dX5_sheet_9 (by decide) rfl (fun c1 => ?_) (fun c1 => ?_)
  · have hF := jif_n hF c1
    refine jr_iload_n 2 dX5_sheet_14 rfl rfl rfl ?_
    obtain ⟨r_2, M_3, hc_2, hF⟩ := jbd_e hF
    refine jh_callS1 (v := .int r_2) (as := [.int a2]) (st := []) (JF_X5_isLane hB hc_2) cw_X5_85 (iv_X5_isLane) ⟨rfl, rfl, by decide, by decide⟩ rfl rfl (Nat.le_of_ble_eq_true rfl) dX5_sheet_15 rfl ?_
    refine jr_if_eq 27 dX5_sheet_18 (by decide) rfl (fun c1 => ?_) (fun c1 => ?_)
    · have hF := jif_p hF c1
      refine jr_bipush (v := (-2)) dX5_sheet_27 (by decide) rfl ?_
      exact jh_iret rfl dX5_sheet_29 hF
    · have hF := jif_n hF c1
      refine jr_iload_n 3 dX5_sheet_21 rfl rfl rfl ?_
      refine jr_bipush (v := 60) dX5_sheet_22 (by decide) rfl ?_
      refine jr_icmp_le 30 dX5_sheet_24 (by decide) rfl (fun c1 => ?_) (fun c1 => ?_)
      · have hF := jif_p hF c1
        refine jr_iload_n 3 dX5_sheet_30 rfl rfl rfl ?_
        refine jr_if_ge 40 dX5_sheet_31 (by decide) rfl (fun c1 => ?_) (fun c1 => ?_)
        · have hF := jif_p hF c1
          refine jr_aload_n 0 dX5_sheet_40 rfl rfl rfl ?_
          refine gf_X5_15 rfl rfl (hB 0 (by decide)) dX5_sheet_41 rfl ?_
          refine jr_iload_n 1 dX5_sheet_44 rfl rfl rfl ?_
          refine jr_iload_n 2 dX5_sheet_45 rfl rfl rfl ?_
          refine jr_iload_n 3 dX5_sheet_46 rfl rfl rfl ?_
          obtain ⟨r_3, M_4, hc_3, hF⟩ := jbd_e hF
          refine jh_callV0 (o := 1) (as := [.int a1, .int a2, .int a3]) (st := []) (JF_X4_lay hB hc_3) cw_X5_226 (iv_X4_lay) ⟨rfl, rfl, by decide, by decide⟩ rfl (hB 1 (by decide)) rfl rfl (Nat.le_of_ble_eq_true rfl) dX5_sheet_47 rfl ?_
          refine jr_iconst (v := 1) dX5_sheet_50 (by decide) rfl ?_
          exact jh_iret rfl dX5_sheet_51 hF
        · have hF := jif_n hF c1
          refine jr_aload_n 0 dX5_sheet_34 rfl rfl rfl ?_
          refine jr_iconst (v := 4) dX5_sheet_35 (by decide) rfl ?_
          obtain ⟨r_4, M_5, hc_4, hF⟩ := jbd_e hF
          refine jh_callV1 (v := .int r_4) (o := 0) (as := [.int 4]) (st := []) (JF_X5_faulty hB hc_4) cw_X5_96 (iv_X5_faulty) ⟨rfl, rfl, by decide, by decide⟩ rfl (hB 0 (by decide)) rfl rfl (Nat.le_of_ble_eq_true rfl) dX5_sheet_36 rfl ?_
          exact jh_iret rfl dX5_sheet_39 hF
      · have hF := jif_n hF c1
        refine jr_bipush (v := (-2)) dX5_sheet_27 (by decide) rfl ?_
        exact jh_iret rfl dX5_sheet_29 hF
  · have hF := jif_p hF c1
    refine jr_iconst (v := (-1)) dX5_sheet_12 (by decide) rfl ?_
    exact jh_iret rfl dX5_sheet_13 hF
set_option maxHeartbeats 4000000 in
set_option maxRecDepth 100000 in
theorem JF_X5_lose {E : jx_E} (hB : ∀ o, o < 8 → jB E o) {a1 : Int32} {M : jx_M} {r : Int32} {M' : jx_M} (hF : F_X5_lose a1 M = some (r, M')) : jC E yX5_lose cX5_lose 2 (some FieldType.int) rm_X5_lose [.ref (ja E 0 0), .int a1] M (fun x M'' => x = some (.int r) ∧ M'' = M') := by
  refine jC.ofJ (L := [(0, .ref (ja E 0 0)), (1, .int a1)]) (by decide +kernel) (Nat.le_of_ble_eq_true rfl) rfl ?_
  unfold F_X5_lose at hF
  refine jr_iload_n 1 dX5_lose_0 rfl rfl rfl ?_
  obtain ⟨r_1, M_1, hc_1, hF⟩ := jbd_e hF
  refine jh_callS1 (v := .int r_1) (as := [.int a1]) (st := []) (JF_X5_isSheet hB hc_1) cw_X5_81 (iv_X5_isSheet) ⟨rfl, rfl, by decide, by decide⟩ rfl rfl (Nat.le_of_ble_eq_true rfl) dX5_lose_1 rfl ?_
  refine jr_if_ne 9 dX5_lose_4 (by decide) rfl (fun c1 => ?_) (fun c1 => ?_)
  · have hF := jif_n hF c1
    refine jr_aload_n 0 dX5_lose_9 rfl rfl rfl ?_
    refine gf_X5_15 rfl rfl (hB 0 (by decide)) dX5_lose_10 rfl ?_
    refine jr_iload_n 1 dX5_lose_13 rfl rfl rfl ?_
    obtain ⟨r_2, M_2, hc_2, hF⟩ := jbd_e hF
    refine jh_callV1 (v := .int r_2) (o := 1) (as := [.int a1]) (st := []) (JF_X4_has hB hc_2) cw_X5_229 (iv_X4_has) ⟨rfl, rfl, by decide, by decide⟩ rfl (hB 1 (by decide)) rfl rfl (Nat.le_of_ble_eq_true rfl) dX5_lose_14 rfl ?_
    refine jr_if_ne 22 dX5_lose_17 (by decide) rfl (fun c1 => ?_) (fun c1 => ?_)
    · have hF := jif_n hF c1
      refine jr_aload_n 0 dX5_lose_22 rfl rfl rfl ?_
      refine gf_X5_15 rfl rfl (hB 0 (by decide)) dX5_lose_23 rfl ?_
      refine jr_iload_n 1 dX5_lose_26 rfl rfl rfl ?_
      obtain ⟨r_3, M_3, hc_3, hF⟩ := jbd_e hF
      refine jh_callV0 (o := 1) (as := [.int a1]) (st := []) (JF_X4_drop hB hc_3) cw_X5_232 (iv_X4_drop) ⟨rfl, rfl, by decide, by decide⟩ rfl (hB 1 (by decide)) rfl rfl (Nat.le_of_ble_eq_true rfl) dX5_lose_27 rfl ?_
      refine jr_iconst (v := 1) dX5_lose_30 (by decide) rfl ?_
      exact jh_iret rfl dX5_lose_31 hF
    · have hF := jif_p hF c1
      refine jr_iconst (v := 0) dX5_lose_20 (by decide) rfl ?_
      exact jh_iret rfl dX5_lose_21 hF
  · have hF := jif_p hF c1
    refine jr_iconst (v := (-1)) dX5_lose_7 (by decide) rfl ?_
    exact jh_iret rfl dX5_lose_8 hF
set_option maxHeartbeats 4000000 in
set_option maxRecDepth 100000 in
theorem JF_X5_put {E : jx_E} (hB : ∀ o, o < 8 → jB E o) {a1 : Int32} {a2 : Int32} {a3 : Int32} {M : jx_M} {r : Int32} {M' : jx_M} (hF : F_X5_put a1 a2 a3 M = some (r, M')) : jC E yX5_put cX5_put 4 (some FieldType.int) rm_X5_put [.ref (ja E 0 0), .int a1, .int a2, .int a3] M (fun x M'' => x = some (.int r) ∧ M'' = M') := by
  refine jC.ofJ (L := [(0, .ref (ja E 0 0)), (1, .int a1), (2, .int a2), (3, .int a3)]) (by decide +kernel) (Nat.le_of_ble_eq_true rfl) rfl ?_
  unfold F_X5_put at hF
  refine jr_aload_n 0 dX5_put_0 rfl rfl rfl ?_
  refine jr_iconst (v := 0) dX5_put_1 (by decide) rfl ?_
  refine pf_X5_75 rfl rfl (hB 0 (by decide)) dX5_put_2 ⟨rfl, rfl⟩ rfl (fun M_1 eM_1 => ?_)
  have hF := jlet_e hF M_1 eM_1
  refine jr_iload_n 1 dX5_put_5 rfl rfl rfl ?_
  obtain ⟨r_1, M_2, hc_1, hF⟩ := jbd_e hF
  refine jh_callS1 (v := .int r_1) (as := [.int a1]) (st := []) (JF_X5_isSheet hB hc_1) cw_X5_81 (iv_X5_isSheet) ⟨rfl, rfl, by decide, by decide⟩ rfl rfl (Nat.le_of_ble_eq_true rfl) dX5_put_6 rfl ?_
  refine jr_if_ne 14 dX5_put_9 (by decide) rfl (fun c1 => ?_) (fun c1 => ?_)
  · have hF := jif_n hF c1
    refine jr_aload_n 0 dX5_put_14 rfl rfl rfl ?_
    refine gf_X5_15 rfl rfl (hB 0 (by decide)) dX5_put_15 rfl ?_
    refine jr_iload_n 1 dX5_put_18 rfl rfl rfl ?_
    obtain ⟨r_2, M_3, hc_2, hF⟩ := jbd_e hF
    refine jh_callV1 (v := .int r_2) (o := 1) (as := [.int a1]) (st := []) (JF_X4_has hB hc_2) cw_X5_229 (iv_X4_has) ⟨rfl, rfl, by decide, by decide⟩ rfl (hB 1 (by decide)) rfl rfl (Nat.le_of_ble_eq_true rfl) dX5_put_19 rfl ?_
    refine jr_if_ne 31 dX5_put_22 (by decide) rfl (fun c1 => ?_) (fun c1 => ?_)
    · have hF := jif_n hF c1
      refine jr_aload_n 0 dX5_put_31 rfl rfl rfl ?_
      refine gf_X5_15 rfl rfl (hB 0 (by decide)) dX5_put_32 rfl ?_
      refine jr_iload_n 1 dX5_put_35 rfl rfl rfl ?_
      refine jr_iload_n 2 dX5_put_36 rfl rfl rfl ?_
      refine jr_iconst (v := 1) dX5_put_37 (by decide) rfl ?_
      obtain ⟨r_3, M_4, hc_3, hF⟩ := jbd_e hF
      refine jh_callV1 (v := .int r_3) (o := 1) (as := [.int a1, .int a2, .int 1]) (st := []) (JF_X4_spans hB hc_3) cw_X5_92 (iv_X4_spans) ⟨rfl, rfl, by decide, by decide⟩ rfl (hB 1 (by decide)) rfl rfl (Nat.le_of_ble_eq_true rfl) dX5_put_38 rfl ?_
      refine jr_if_ne 50 dX5_put_41 (by decide) rfl (fun c1 => ?_) (fun c1 => ?_)
      · have hF := jif_n hF c1
        refine jr_aload_n 0 dX5_put_50 rfl rfl rfl ?_
        refine gf_X5_15 rfl rfl (hB 0 (by decide)) dX5_put_51 rfl ?_
        refine jr_iload_n 1 dX5_put_54 rfl rfl rfl ?_
        refine jr_iload_n 2 dX5_put_55 rfl rfl rfl ?_
        refine jr_iload_n 3 dX5_put_56 rfl rfl rfl ?_
        obtain ⟨r_4, M_5, hc_4, hF⟩ := jbd_e hF
        refine jh_callV0 (o := 1) (as := [.int a1, .int a2, .int a3]) (st := []) (JF_X4_write hB hc_4) cw_X5_236 (iv_X4_write) ⟨rfl, rfl, by decide, by decide⟩ rfl (hB 1 (by decide)) rfl rfl (Nat.le_of_ble_eq_true rfl) dX5_put_57 rfl ?_
        refine jr_iconst (v := 1) dX5_put_60 (by decide) rfl ?_
        exact jh_iret rfl dX5_put_61 hF
      · have hF := jif_p hF c1
        refine jr_aload_n 0 dX5_put_44 rfl rfl rfl ?_
        refine jr_iconst (v := 3) dX5_put_45 (by decide) rfl ?_
        obtain ⟨r_5, M_6, hc_5, hF⟩ := jbd_e hF
        refine jh_callV1 (v := .int r_5) (o := 0) (as := [.int 3]) (st := []) (JF_X5_faulty hB hc_5) cw_X5_96 (iv_X5_faulty) ⟨rfl, rfl, by decide, by decide⟩ rfl (hB 0 (by decide)) rfl rfl (Nat.le_of_ble_eq_true rfl) dX5_put_46 rfl ?_
        exact jh_iret rfl dX5_put_49 hF
    · have hF := jif_p hF c1
      refine jr_aload_n 0 dX5_put_25 rfl rfl rfl ?_
      refine jr_iconst (v := 1) dX5_put_26 (by decide) rfl ?_
      obtain ⟨r_6, M_7, hc_6, hF⟩ := jbd_e hF
      refine jh_callV1 (v := .int r_6) (o := 0) (as := [.int 1]) (st := []) (JF_X5_faulty hB hc_6) cw_X5_96 (iv_X5_faulty) ⟨rfl, rfl, by decide, by decide⟩ rfl (hB 0 (by decide)) rfl rfl (Nat.le_of_ble_eq_true rfl) dX5_put_27 rfl ?_
      exact jh_iret rfl dX5_put_30 hF
  · have hF := jif_p hF c1
    refine jr_iconst (v := (-1)) dX5_put_12 (by decide) rfl ?_
    exact jh_iret rfl dX5_put_13 hF
set_option maxHeartbeats 4000000 in
set_option maxRecDepth 100000 in
theorem JF_X5_cell {E : jx_E} (hB : ∀ o, o < 8 → jB E o) {a1 : Int32} {a2 : Int32} {a3 : Int32} {M : jx_M} {r : Int64} {M' : jx_M} (hF : F_X5_cell a1 a2 a3 M = some (r, M')) : jC E yX5_cell cX5_cell 5 (some FieldType.long) rm_X5_cell [.ref (ja E 0 0), .int a1, .int a2, .int a3] M (fun x M'' => x = some (.long r) ∧ M'' = M') := by
  refine jC.ofJ (L := [(0, .ref (ja E 0 0)), (1, .int a1), (2, .int a2), (3, .int a3)]) (by decide +kernel) (Nat.le_of_ble_eq_true rfl) rfl ?_
  unfold F_X5_cell at hF
  refine jr_aload_n 0 dX5_cell_0 rfl rfl rfl ?_
  refine jr_iconst (v := 0) dX5_cell_1 (by decide) rfl ?_
  refine pf_X5_75 rfl rfl (hB 0 (by decide)) dX5_cell_2 ⟨rfl, rfl⟩ rfl (fun M_1 eM_1 => ?_)
  have hF := jlet_e hF M_1 eM_1
  refine jr_iload_n 1 dX5_cell_5 rfl rfl rfl ?_
  obtain ⟨r_1, M_2, hc_1, hF⟩ := jbd_e hF
  refine jh_callS1 (v := .int r_1) (as := [.int a1]) (st := []) (JF_X5_isSheet hB hc_1) cw_X5_81 (iv_X5_isSheet) ⟨rfl, rfl, by decide, by decide⟩ rfl rfl (Nat.le_of_ble_eq_true rfl) dX5_cell_6 rfl ?_
  refine jr_if_eq 19 dX5_cell_9 (by decide) rfl (fun c1 => ?_) (fun c1 => ?_)
  · have hF := jif_p hF c1
    refine jr_ldc2 (v := (-9223372036854775808)) dX5_cell_19 (List.mem_cons_of_mem _ (lw_g_of 573 (by decide +kernel) (by decide +kernel))) rfl ?_
    exact jh_lret rfl dX5_cell_22 hF
  · have hF := jif_n hF c1
    refine jr_iload_n 3 dX5_cell_12 rfl rfl rfl ?_
    obtain ⟨r_2, M_3, hc_2, hF⟩ := jbd_e hF
    refine jh_callS1 (v := .int r_2) (as := [.int a3]) (st := []) (JF_X5_isLane hB hc_2) cw_X5_85 (iv_X5_isLane) ⟨rfl, rfl, by decide, by decide⟩ rfl rfl (Nat.le_of_ble_eq_true rfl) dX5_cell_13 rfl ?_
    refine jr_if_ne 23 dX5_cell_16 (by decide) rfl (fun c1 => ?_) (fun c1 => ?_)
    · have hF := jif_n hF c1
      refine jr_aload_n 0 dX5_cell_23 rfl rfl rfl ?_
      refine jr_iload_n 1 dX5_cell_24 rfl rfl rfl ?_
      refine jr_iload_n 3 dX5_cell_25 rfl rfl rfl ?_
      obtain ⟨r_3, M_4, hc_3, hF⟩ := jbd_e hF
      refine jh_callV1 (v := .int r_3) (o := 0) (as := [.int a1, .int a3]) (st := []) (JF_X5_faultOfRow hB hc_3) cw_X5_88 (iv_X5_faultOfRow) ⟨rfl, rfl, by decide, by decide⟩ rfl (hB 0 (by decide)) rfl rfl (Nat.le_of_ble_eq_true rfl) dX5_cell_26 rfl ?_
      refine jr_istore (L' := [(4, .int r_3), (0, .ref (ja E 0 0)), (1, .int a1), (2, .int a2), (3, .int a3)]) dX5_cell_29 (by decide) rfl rfl ?_
      refine jr_iload 0 dX5_cell_31 rfl rfl ?_
      refine jr_if_ne 52 dX5_cell_33 (by decide) rfl (fun c1 => ?_) (fun c1 => ?_)
      · have hF := jif_n hF c1
        refine jr_iload 0 dX5_cell_52 rfl rfl ?_
        refine jr_if_ne 68 dX5_cell_54 (by decide) rfl (fun c1 => ?_) (fun c1 => ?_)
        · have hF := jif_n hF c1
          refine jr_aload_n 1 dX5_cell_68 rfl rfl rfl ?_
          refine jr_iload 0 dX5_cell_69 rfl rfl ?_
          refine pf_X5_75 rfl rfl (hB 0 (by decide)) dX5_cell_71 ⟨rfl, rfl⟩ rfl (fun M_5 eM_5 => ?_)
          have hF := jlet_e hF M_5 eM_5
          refine jr_ldc2 (v := (-9223372036854775808)) dX5_cell_74 (List.mem_cons_of_mem _ (lw_g_of 573 (by decide +kernel) (by decide +kernel))) rfl ?_
          exact jh_lret rfl dX5_cell_77 hF
        · have hF := jif_p hF c1
          refine jr_aload_n 1 dX5_cell_57 rfl rfl rfl ?_
          refine gf_X5_15 rfl rfl (hB 0 (by decide)) dX5_cell_58 rfl ?_
          refine jr_iload_n 2 dX5_cell_61 rfl rfl rfl ?_
          refine jr_iload_n 3 dX5_cell_62 rfl rfl rfl ?_
          obtain ⟨r_4, M_6, hc_4, hF⟩ := jbd_e hF
          refine jh_callV1 (v := .int r_4) (o := 1) (as := [.int a1, .int a2]) (st := []) (JF_X4_read hB hc_4) cw_X5_239 (iv_X4_read) ⟨rfl, rfl, by decide, by decide⟩ rfl (hB 1 (by decide)) rfl rfl (Nat.le_of_ble_eq_true rfl) dX5_cell_63 rfl ?_
          refine jr_i2l dX5_cell_66 rfl ?_
          exact jh_lret rfl dX5_cell_67 hF
      · have hF := jif_p hF c1
        refine jr_aload_n 1 dX5_cell_36 rfl rfl rfl ?_
        refine gf_X5_15 rfl rfl (hB 0 (by decide)) dX5_cell_37 rfl ?_
        refine jr_iload_n 2 dX5_cell_40 rfl rfl rfl ?_
        refine jr_iload_n 3 dX5_cell_41 rfl rfl rfl ?_
        refine jr_iconst (v := 1) dX5_cell_42 (by decide) rfl ?_
        obtain ⟨r_5, M_7, hc_5, hF⟩ := jbd_e hF
        refine jh_callV1 (v := .int r_5) (o := 1) (as := [.int a1, .int a2, .int 1]) (st := []) (JF_X4_spans hB hc_5) cw_X5_92 (iv_X4_spans) ⟨rfl, rfl, by decide, by decide⟩ rfl (hB 1 (by decide)) rfl rfl (Nat.le_of_ble_eq_true rfl) dX5_cell_43 rfl ?_
        refine jr_if_ne 52 dX5_cell_46 (by decide) rfl (fun c1 => ?_) (fun c1 => ?_)
        · have hF := jif_n hF c1
          refine jr_iload 0 dX5_cell_52 rfl rfl ?_
          refine jr_if_ne 68 dX5_cell_54 (by decide) rfl (fun c1 => ?_) (fun c1 => ?_)
          · have hF := jif_n hF c1
            refine jr_aload_n 1 dX5_cell_68 rfl rfl rfl ?_
            refine jr_iload 0 dX5_cell_69 rfl rfl ?_
            refine pf_X5_75 rfl rfl (hB 0 (by decide)) dX5_cell_71 ⟨rfl, rfl⟩ rfl (fun M_8 eM_8 => ?_)
            have hF := jlet_e hF M_8 eM_8
            refine jr_ldc2 (v := (-9223372036854775808)) dX5_cell_74 (List.mem_cons_of_mem _ (lw_g_of 573 (by decide +kernel) (by decide +kernel))) rfl ?_
            exact jh_lret rfl dX5_cell_77 hF
          · have hF := jif_p hF c1
            refine jr_aload_n 1 dX5_cell_57 rfl rfl rfl ?_
            refine gf_X5_15 rfl rfl (hB 0 (by decide)) dX5_cell_58 rfl ?_
            refine jr_iload_n 2 dX5_cell_61 rfl rfl rfl ?_
            refine jr_iload_n 3 dX5_cell_62 rfl rfl rfl ?_
            obtain ⟨r_6, M_9, hc_6, hF⟩ := jbd_e hF
            refine jh_callV1 (v := .int r_6) (o := 1) (as := [.int a1, .int a2]) (st := []) (JF_X4_read hB hc_6) cw_X5_239 (iv_X4_read) ⟨rfl, rfl, by decide, by decide⟩ rfl (hB 1 (by decide)) rfl rfl (Nat.le_of_ble_eq_true rfl) dX5_cell_63 rfl ?_
            refine jr_i2l dX5_cell_66 rfl ?_
            exact jh_lret rfl dX5_cell_67 hF
        · have hF := jif_p hF c1
          refine jr_iconst (v := 3) dX5_cell_49 (by decide) rfl ?_
          refine jr_istore (L' := [(4, .int 3), (0, .ref (ja E 0 0)), (1, .int a1), (2, .int a2), (3, .int a3)]) dX5_cell_50 (by decide) rfl rfl ?_
          refine jr_iload 0 dX5_cell_52 rfl rfl ?_
          refine jr_if_ne 68 dX5_cell_54 (by decide) rfl (fun c1 => ?_) (fun c1 => absurd c1 (by decide))
          refine jr_aload_n 1 dX5_cell_68 rfl rfl rfl ?_
          refine jr_iload 0 dX5_cell_69 rfl rfl ?_
          refine pf_X5_75 rfl rfl (hB 0 (by decide)) dX5_cell_71 ⟨rfl, rfl⟩ rfl (fun M_10 eM_10 => ?_)
          have hF := jlet_e hF M_10 eM_10
          refine jr_ldc2 (v := (-9223372036854775808)) dX5_cell_74 (List.mem_cons_of_mem _ (lw_g_of 573 (by decide +kernel) (by decide +kernel))) rfl ?_
          exact jh_lret rfl dX5_cell_77 hF
    · have hF := jif_p hF c1
      refine jr_ldc2 (v := (-9223372036854775808)) dX5_cell_19 (List.mem_cons_of_mem _ (lw_g_of 573 (by decide +kernel) (by decide +kernel))) rfl ?_
      exact jh_lret rfl dX5_cell_22 hF
set_option maxHeartbeats 4000000 in
set_option maxRecDepth 100000 in
theorem JF_X5_copy {E : jx_E} (hB : ∀ o, o < 8 → jB E o) {a1 : Int32} {a2 : Int32} {a3 : Int32} {a4 : Int32} {a5 : Int32} {M : jx_M} {r : Int32} {M' : jx_M} (hF : F_X5_copy a1 a2 a3 a4 a5 M = some (r, M')) : jC E yX5_copy cX5_copy 6 (some FieldType.int) rm_X5_copy [.ref (ja E 0 0), .int a1, .int a2, .int a3, .int a4, .int a5] M (fun x M'' => x = some (.int r) ∧ M'' = M') := by
  refine jC.ofJ (L := [(0, .ref (ja E 0 0)), (1, .int a1), (2, .int a2), (3, .int a3), (4, .int a4), (5, .int a5)]) (by decide +kernel) (Nat.le_of_ble_eq_true rfl) rfl ?_
  unfold F_X5_copy at hF
  refine jr_aload_n 0 dX5_copy_0 rfl rfl rfl ?_
  refine jr_iconst (v := 0) dX5_copy_1 (by decide) rfl ?_
  refine pf_X5_75 rfl rfl (hB 0 (by decide)) dX5_copy_2 ⟨rfl, rfl⟩ rfl (fun M_1 eM_1 => ?_)
  have hF := jlet_e hF M_1 eM_1
  refine jr_iload_n 1 dX5_copy_5 rfl rfl rfl ?_
  obtain ⟨r_1, M_2, hc_1, hF⟩ := jbd_e hF
  refine jh_callS1 (v := .int r_1) (as := [.int a1]) (st := []) (JF_X5_isSheet hB hc_1) cw_X5_81 (iv_X5_isSheet) ⟨rfl, rfl, by decide, by decide⟩ rfl rfl (Nat.le_of_ble_eq_true rfl) dX5_copy_6 rfl ?_
  refine jr_if_eq 19 dX5_copy_9 (by decide) rfl (fun c1 => ?_) (fun c1 => ?_)
  · have hF := jif_p hF c1
    refine jr_iconst (v := (-1)) dX5_copy_19 (by decide) rfl ?_
    exact jh_iret rfl dX5_copy_20 hF
  · have hF := jif_n hF c1
    refine jr_iload_n 3 dX5_copy_12 rfl rfl rfl ?_
    obtain ⟨r_2, M_3, hc_2, hF⟩ := jbd_e hF
    refine jh_callS1 (v := .int r_2) (as := [.int a3]) (st := []) (JF_X5_isSheet hB hc_2) cw_X5_81 (iv_X5_isSheet) ⟨rfl, rfl, by decide, by decide⟩ rfl rfl (Nat.le_of_ble_eq_true rfl) dX5_copy_13 rfl ?_
    refine jr_if_ne 21 dX5_copy_16 (by decide) rfl (fun c1 => ?_) (fun c1 => ?_)
    · have hF := jif_n hF c1
      refine jr_aload_n 0 dX5_copy_21 rfl rfl rfl ?_
      refine gf_X5_15 rfl rfl (hB 0 (by decide)) dX5_copy_22 rfl ?_
      refine jr_iload_n 1 dX5_copy_25 rfl rfl rfl ?_
      obtain ⟨r_3, M_4, hc_3, hF⟩ := jbd_e hF
      refine jh_callV1 (v := .int r_3) (o := 1) (as := [.int a1]) (st := []) (JF_X4_has hB hc_3) cw_X5_229 (iv_X4_has) ⟨rfl, rfl, by decide, by decide⟩ rfl (hB 1 (by decide)) rfl rfl (Nat.le_of_ble_eq_true rfl) dX5_copy_26 rfl ?_
      refine jr_if_eq 43 dX5_copy_29 (by decide) rfl (fun c1 => ?_) (fun c1 => ?_)
      · have hF := jif_p hF c1
        refine jr_aload_n 0 dX5_copy_43 rfl rfl rfl ?_
        refine jr_iconst (v := 1) dX5_copy_44 (by decide) rfl ?_
        obtain ⟨r_4, M_5, hc_4, hF⟩ := jbd_e hF
        refine jh_callV1 (v := .int r_4) (o := 0) (as := [.int 1]) (st := []) (JF_X5_faulty hB hc_4) cw_X5_96 (iv_X5_faulty) ⟨rfl, rfl, by decide, by decide⟩ rfl (hB 0 (by decide)) rfl rfl (Nat.le_of_ble_eq_true rfl) dX5_copy_45 rfl ?_
        exact jh_iret rfl dX5_copy_48 hF
      · have hF := jif_n hF c1
        refine jr_aload_n 0 dX5_copy_32 rfl rfl rfl ?_
        refine gf_X5_15 rfl rfl (hB 0 (by decide)) dX5_copy_33 rfl ?_
        refine jr_iload_n 3 dX5_copy_36 rfl rfl rfl ?_
        obtain ⟨r_5, M_6, hc_5, hF⟩ := jbd_e hF
        refine jh_callV1 (v := .int r_5) (o := 1) (as := [.int a3]) (st := []) (JF_X4_has hB hc_5) cw_X5_229 (iv_X4_has) ⟨rfl, rfl, by decide, by decide⟩ rfl (hB 1 (by decide)) rfl rfl (Nat.le_of_ble_eq_true rfl) dX5_copy_37 rfl ?_
        refine jr_if_ne 49 dX5_copy_40 (by decide) rfl (fun c1 => ?_) (fun c1 => ?_)
        · have hF := jif_n hF c1
          refine jr_aload_n 0 dX5_copy_49 rfl rfl rfl ?_
          refine gf_X5_15 rfl rfl (hB 0 (by decide)) dX5_copy_50 rfl ?_
          refine gf_X5_242 rfl rfl (hB 1 (by decide)) dX5_copy_53 rfl ?_
          refine jr_iload_n 1 dX5_copy_56 rfl rfl rfl ?_
          obtain ⟨hb_1, hF⟩ := jck_e hF
          refine jh_iald (ci := 4) (k := 0) rfl (hB 1 (by decide)) (by decide) rfl rfl hb_1 dX5_copy_57 rfl ?_
          refine jr_aload_n 0 dX5_copy_58 rfl rfl rfl ?_
          refine gf_X5_15 rfl rfl (hB 0 (by decide)) dX5_copy_59 rfl ?_
          refine gf_X5_242 rfl rfl (hB 1 (by decide)) dX5_copy_62 rfl ?_
          refine jr_iload_n 3 dX5_copy_65 rfl rfl rfl ?_
          obtain ⟨hb_2, hF⟩ := jck_e hF
          refine jh_iald (ci := 4) (k := 0) rfl (hB 1 (by decide)) (by decide) rfl rfl hb_2 dX5_copy_66 rfl ?_
          refine jr_icmp_eq 76 dX5_copy_67 (by decide) rfl (fun c1 => ?_) (fun c1 => ?_)
          · have hF := jif_p hF c1
            refine jr_aload_n 0 dX5_copy_76 rfl rfl rfl ?_
            refine gf_X5_15 rfl rfl (hB 0 (by decide)) dX5_copy_77 rfl ?_
            refine jr_iload_n 1 dX5_copy_80 rfl rfl rfl ?_
            refine jr_iload_n 2 dX5_copy_81 rfl rfl rfl ?_
            refine jr_iload 5 dX5_copy_82 rfl rfl ?_
            obtain ⟨r_6, M_7, hc_6, hF⟩ := jbd_e hF
            refine jh_callV1 (v := .int r_6) (o := 1) (as := [.int a1, .int a2, .int a5]) (st := []) (JF_X4_spans hB hc_6) cw_X5_92 (iv_X4_spans) ⟨rfl, rfl, by decide, by decide⟩ rfl (hB 1 (by decide)) rfl rfl (Nat.le_of_ble_eq_true rfl) dX5_copy_84 rfl ?_
            refine jr_if_eq 105 dX5_copy_87 (by decide) rfl (fun c1 => ?_) (fun c1 => ?_)
            · have hF := jif_p hF c1
              refine jr_aload_n 0 dX5_copy_105 rfl rfl rfl ?_
              refine jr_iconst (v := 3) dX5_copy_106 (by decide) rfl ?_
              obtain ⟨r_7, M_8, hc_7, hF⟩ := jbd_e hF
              refine jh_callV1 (v := .int r_7) (o := 0) (as := [.int 3]) (st := []) (JF_X5_faulty hB hc_7) cw_X5_96 (iv_X5_faulty) ⟨rfl, rfl, by decide, by decide⟩ rfl (hB 0 (by decide)) rfl rfl (Nat.le_of_ble_eq_true rfl) dX5_copy_107 rfl ?_
              exact jh_iret rfl dX5_copy_110 hF
            · have hF := jif_n hF c1
              refine jr_aload_n 0 dX5_copy_90 rfl rfl rfl ?_
              refine gf_X5_15 rfl rfl (hB 0 (by decide)) dX5_copy_91 rfl ?_
              refine jr_iload_n 3 dX5_copy_94 rfl rfl rfl ?_
              refine jr_iload 4 dX5_copy_95 rfl rfl ?_
              refine jr_iload 5 dX5_copy_97 rfl rfl ?_
              obtain ⟨r_8, M_9, hc_8, hF⟩ := jbd_e hF
              refine jh_callV1 (v := .int r_8) (o := 1) (as := [.int a3, .int a4, .int a5]) (st := []) (JF_X4_spans hB hc_8) cw_X5_92 (iv_X4_spans) ⟨rfl, rfl, by decide, by decide⟩ rfl (hB 1 (by decide)) rfl rfl (Nat.le_of_ble_eq_true rfl) dX5_copy_99 rfl ?_
              refine jr_if_ne 111 dX5_copy_102 (by decide) rfl (fun c1 => ?_) (fun c1 => ?_)
              · have hF := jif_n hF c1
                refine jr_aload_n 0 dX5_copy_111 rfl rfl rfl ?_
                refine gf_X5_15 rfl rfl (hB 0 (by decide)) dX5_copy_112 rfl ?_
                refine jr_iload_n 1 dX5_copy_115 rfl rfl rfl ?_
                refine jr_iload_n 2 dX5_copy_116 rfl rfl rfl ?_
                refine jr_iload_n 3 dX5_copy_117 rfl rfl rfl ?_
                refine jr_iload 4 dX5_copy_118 rfl rfl ?_
                refine jr_iload 5 dX5_copy_120 rfl rfl ?_
                obtain ⟨r_9, M_10, hc_9, hF⟩ := jbd_e hF
                refine jh_callV0 (o := 1) (as := [.int a1, .int a2, .int a3, .int a4, .int a5]) (st := []) (JF_X4_move hB hc_9) cw_X5_245 (iv_X4_move) ⟨rfl, rfl, by decide, by decide⟩ rfl (hB 1 (by decide)) rfl rfl (Nat.le_of_ble_eq_true rfl) dX5_copy_122 rfl ?_
                refine jr_iload 5 dX5_copy_125 rfl rfl ?_
                exact jh_iret rfl dX5_copy_127 hF
              · have hF := jif_p hF c1
                refine jr_aload_n 0 dX5_copy_105 rfl rfl rfl ?_
                refine jr_iconst (v := 3) dX5_copy_106 (by decide) rfl ?_
                obtain ⟨r_10, M_11, hc_10, hF⟩ := jbd_e hF
                refine jh_callV1 (v := .int r_10) (o := 0) (as := [.int 3]) (st := []) (JF_X5_faulty hB hc_10) cw_X5_96 (iv_X5_faulty) ⟨rfl, rfl, by decide, by decide⟩ rfl (hB 0 (by decide)) rfl rfl (Nat.le_of_ble_eq_true rfl) dX5_copy_107 rfl ?_
                exact jh_iret rfl dX5_copy_110 hF
          · have hF := jif_n hF c1
            refine jr_aload_n 0 dX5_copy_70 rfl rfl rfl ?_
            refine jr_iconst (v := 2) dX5_copy_71 (by decide) rfl ?_
            obtain ⟨r_11, M_12, hc_11, hF⟩ := jbd_e hF
            refine jh_callV1 (v := .int r_11) (o := 0) (as := [.int 2]) (st := []) (JF_X5_faulty hB hc_11) cw_X5_96 (iv_X5_faulty) ⟨rfl, rfl, by decide, by decide⟩ rfl (hB 0 (by decide)) rfl rfl (Nat.le_of_ble_eq_true rfl) dX5_copy_72 rfl ?_
            exact jh_iret rfl dX5_copy_75 hF
        · have hF := jif_p hF c1
          refine jr_aload_n 0 dX5_copy_43 rfl rfl rfl ?_
          refine jr_iconst (v := 1) dX5_copy_44 (by decide) rfl ?_
          obtain ⟨r_12, M_13, hc_12, hF⟩ := jbd_e hF
          refine jh_callV1 (v := .int r_12) (o := 0) (as := [.int 1]) (st := []) (JF_X5_faulty hB hc_12) cw_X5_96 (iv_X5_faulty) ⟨rfl, rfl, by decide, by decide⟩ rfl (hB 0 (by decide)) rfl rfl (Nat.le_of_ble_eq_true rfl) dX5_copy_45 rfl ?_
          exact jh_iret rfl dX5_copy_48 hF
    · have hF := jif_p hF c1
      refine jr_iconst (v := (-1)) dX5_copy_19 (by decide) rfl ?_
      exact jh_iret rfl dX5_copy_20 hF
set_option maxHeartbeats 4000000 in
set_option maxRecDepth 100000 in
theorem JF_X5_leave {E : jx_E} (hB : ∀ o, o < 8 → jB E o) {a1 : Int32} {M : jx_M} {r : Unit} {M' : jx_M} (hF : F_X5_leave a1 M = some (r, M')) : jC E yX5_leave cX5_leave 2 none rm_X5_leave [.ref (ja E 0 0), .int a1] M (fun x M'' => x = none ∧ M'' = M') := by
  refine jC.ofJ (L := [(0, .ref (ja E 0 0)), (1, .int a1)]) (by decide +kernel) (Nat.le_of_ble_eq_true rfl) rfl ?_
  unfold F_X5_leave at hF
  refine jr_aload_n 0 dX5_leave_0 rfl rfl rfl ?_
  refine jr_bipush (v := 31) dX5_leave_1 (by decide) rfl ?_
  refine jr_aload_n 0 dX5_leave_3 rfl rfl rfl ?_
  refine gf_X5_78 rfl rfl (hB 0 (by decide)) dX5_leave_4 rfl ?_
  refine jr_imul dX5_leave_7 rfl ?_
  refine jr_iload_n 1 dX5_leave_8 rfl rfl rfl ?_
  refine jr_iadd dX5_leave_9 rfl ?_
  refine pf_X5_78 rfl rfl (hB 0 (by decide)) dX5_leave_10 ⟨rfl, rfl⟩ rfl (fun M_1 eM_1 => ?_)
  have hF := jlet_e hF M_1 eM_1
  exact jh_vret rfl dX5_leave_13 hF
set_option maxHeartbeats 4000000 in
set_option maxRecDepth 100000 in
theorem JF_X5_tellDreamer {E : jx_E} (hB : ∀ o, o < 8 → jB E o) {a1 : Int32} {M : jx_M} {r : Int32} {M' : jx_M} (hF : F_X5_tellDreamer a1 M = some (r, M')) : jC E yX5_tellDreamer cX5_tellDreamer 2 (some FieldType.int) rm_X5_tellDreamer [.ref (ja E 0 0), .int a1] M (fun x M'' => x = some (.int r) ∧ M'' = M') := by
  refine jC.ofJ (L := [(0, .ref (ja E 0 0)), (1, .int a1)]) (by decide +kernel) (Nat.le_of_ble_eq_true rfl) rfl ?_
  unfold F_X5_tellDreamer at hF
  refine jr_aload_n 0 dX5_tellDreamer_0 rfl rfl rfl ?_
  refine jr_iconst (v := 1) dX5_tellDreamer_1 (by decide) rfl ?_
  obtain ⟨r_1, M_1, hc_1, hF⟩ := jbd_e hF
  refine jh_callV0 (o := 0) (as := [.int 1]) (st := []) (JF_X5_leave hB hc_1) cw_X5_258 (iv_X5_leave) ⟨rfl, rfl, by decide, by decide⟩ rfl (hB 0 (by decide)) rfl rfl (Nat.le_of_ble_eq_true rfl) dX5_tellDreamer_2 rfl ?_
  refine jr_iload_n 1 dX5_tellDreamer_5 rfl rfl rfl ?_
  exact jh_iret rfl dX5_tellDreamer_6 hF
set_option maxHeartbeats 4000000 in
set_option maxRecDepth 100000 in
theorem JF_X5_tellHeavy {E : jx_E} (hB : ∀ o, o < 8 → jB E o) {a1 : Int32} {M : jx_M} {r : Int32} {M' : jx_M} (hF : F_X5_tellHeavy a1 M = some (r, M')) : jC E yX5_tellHeavy cX5_tellHeavy 2 (some FieldType.int) rm_X5_tellHeavy [.ref (ja E 0 0), .int a1] M (fun x M'' => x = some (.int r) ∧ M'' = M') := by
  refine jC.ofJ (L := [(0, .ref (ja E 0 0)), (1, .int a1)]) (by decide +kernel) (Nat.le_of_ble_eq_true rfl) rfl ?_
  unfold F_X5_tellHeavy at hF
  refine jr_aload_n 0 dX5_tellHeavy_0 rfl rfl rfl ?_
  refine jr_iconst (v := 2) dX5_tellHeavy_1 (by decide) rfl ?_
  obtain ⟨r_1, M_1, hc_1, hF⟩ := jbd_e hF
  refine jh_callV0 (o := 0) (as := [.int 2]) (st := []) (JF_X5_leave hB hc_1) cw_X5_258 (iv_X5_leave) ⟨rfl, rfl, by decide, by decide⟩ rfl (hB 0 (by decide)) rfl rfl (Nat.le_of_ble_eq_true rfl) dX5_tellHeavy_2 rfl ?_
  refine jr_aload_n 0 dX5_tellHeavy_5 rfl rfl rfl ?_
  refine jr_iload_n 1 dX5_tellHeavy_6 rfl rfl rfl ?_
  obtain ⟨r_2, M_2, hc_2, hF⟩ := jbd_e hF
  refine jh_callV1 (v := .int r_2) (o := 0) (as := [.int a1]) (st := []) (JF_X5_tellDreamer hB hc_2) cw_X5_255 (iv_X5_tellDreamer) ⟨rfl, rfl, by decide, by decide⟩ rfl (hB 0 (by decide)) rfl rfl (Nat.le_of_ble_eq_true rfl) dX5_tellHeavy_7 rfl ?_
  refine jr_bipush (v := 100) dX5_tellHeavy_10 (by decide) rfl ?_
  refine jr_iadd dX5_tellHeavy_12 rfl ?_
  exact jh_iret rfl dX5_tellHeavy_13 hF
set_option maxHeartbeats 4000000 in
set_option maxRecDepth 100000 in
theorem JF_X5_tellEnchanted {E : jx_E} (hB : ∀ o, o < 8 → jB E o) {a1 : Int32} {M : jx_M} {r : Int32} {M' : jx_M} (hF : F_X5_tellEnchanted a1 M = some (r, M')) : jC E yX5_tellEnchanted cX5_tellEnchanted 3 (some FieldType.int) rm_X5_tellEnchanted [.ref (ja E 0 0), .int a1] M (fun x M'' => x = some (.int r) ∧ M'' = M') := by
  refine jC.ofJ (L := [(0, .ref (ja E 0 0)), (1, .int a1)]) (by decide +kernel) (Nat.le_of_ble_eq_true rfl) rfl ?_
  unfold F_X5_tellEnchanted at hF
  refine jr_aload_n 0 dX5_tellEnchanted_0 rfl rfl rfl ?_
  refine jr_iconst (v := 3) dX5_tellEnchanted_1 (by decide) rfl ?_
  obtain ⟨r_1, M_1, hc_1, hF⟩ := jbd_e hF
  refine jh_callV0 (o := 0) (as := [.int 3]) (st := []) (JF_X5_leave hB hc_1) cw_X5_258 (iv_X5_leave) ⟨rfl, rfl, by decide, by decide⟩ rfl (hB 0 (by decide)) rfl rfl (Nat.le_of_ble_eq_true rfl) dX5_tellEnchanted_2 rfl ?_
  refine jr_aload_n 0 dX5_tellEnchanted_5 rfl rfl rfl ?_
  refine jr_iload_n 1 dX5_tellEnchanted_6 rfl rfl rfl ?_
  obtain ⟨r_2, M_2, hc_2, hF⟩ := jbd_e hF
  refine jh_callV1 (v := .int r_2) (o := 0) (as := [.int a1]) (st := []) (JF_X5_tellHeavy hB hc_2) cw_X5_252 (iv_X5_tellHeavy) ⟨rfl, rfl, by decide, by decide⟩ rfl (hB 0 (by decide)) rfl rfl (Nat.le_of_ble_eq_true rfl) dX5_tellEnchanted_7 rfl ?_
  refine jr_istore_n (L' := [(2, .int r_2), (0, .ref (ja E 0 0)), (1, .int a1)]) dX5_tellEnchanted_10 rfl (by decide) rfl rfl ?_
  refine jr_iload_n 0 dX5_tellEnchanted_11 rfl rfl rfl ?_
  refine jr_aload_n 1 dX5_tellEnchanted_12 rfl rfl rfl ?_
  refine jr_iload_n 2 dX5_tellEnchanted_13 rfl rfl rfl ?_
  obtain ⟨r_3, M_3, hc_3, hF⟩ := jbd_e hF
  refine jh_callV1 (v := .int r_3) (o := 0) (as := [.int a1]) (st := [.int r_2]) (JF_X5_tellDreamer hB hc_3) cw_X5_255 (iv_X5_tellDreamer) ⟨rfl, rfl, by decide, by decide⟩ rfl (hB 0 (by decide)) rfl rfl (Nat.le_of_ble_eq_true rfl) dX5_tellEnchanted_14 rfl ?_
  refine jr_iadd dX5_tellEnchanted_17 rfl ?_
  exact jh_iret rfl dX5_tellEnchanted_18 hF
set_option maxHeartbeats 4000000 in
set_option maxRecDepth 100000 in
theorem JF_X5_tell {E : jx_E} (hB : ∀ o, o < 8 → jB E o) {a1 : Int32} {M : jx_M} {r : Int32} {M' : jx_M} (hF : F_X5_tell a1 M = some (r, M')) : jC E yX5_tell cX5_tell 3 (some FieldType.int) rm_X5_tell [.ref (ja E 0 0), .int a1] M (fun x M'' => x = some (.int r) ∧ M'' = M') := by
  refine jC.ofJ (L := [(0, .ref (ja E 0 0)), (1, .int a1)]) (by decide +kernel) (Nat.le_of_ble_eq_true rfl) rfl ?_
  unfold F_X5_tell at hF
  refine jr_aload_n 0 dX5_tell_0 rfl rfl rfl ?_
  refine jr_iload_n 1 dX5_tell_1 rfl rfl rfl ?_
  obtain ⟨r_1, M_1, hc_1, hF⟩ := jbd_e hF
  refine jh_callV1 (v := .int r_1) (o := 0) (as := [.int a1]) (st := []) (JF_X5_isPerson hB hc_1) cw_X5_120 (iv_X5_isPerson) ⟨rfl, rfl, by decide, by decide⟩ rfl (hB 0 (by decide)) rfl rfl (Nat.le_of_ble_eq_true rfl) dX5_tell_2 rfl ?_
  refine jr_if_ne 10 dX5_tell_5 (by decide) rfl (fun c1 => ?_) (fun c1 => ?_)
  · have hF := jif_n hF c1
    refine jr_aload_n 0 dX5_tell_10 rfl rfl rfl ?_
    refine gf_X5_21 rfl rfl (hB 0 (by decide)) dX5_tell_11 rfl ?_
    refine gf_X5_135 rfl rfl (hB 2 (by decide)) dX5_tell_14 rfl ?_
    refine jr_iload_n 1 dX5_tell_17 rfl rfl rfl ?_
    obtain ⟨hb_1, hF⟩ := jck_e hF
    refine jh_iald (ci := 1) (k := 6) rfl (hB 2 (by decide)) (by decide) rfl rfl hb_1 dX5_tell_18 rfl ?_
    refine jr_topi (fun x2_1 ex2_1 => ?_)
    have hF := jlet_e hF x2_1 ex2_1
    refine jr_istore_n (L' := [(2, .int x2_1), (0, .ref (ja E 0 0)), (1, .int a1)]) dX5_tell_19 rfl (by decide) rfl rfl ?_
    refine jr_aload_n 1 dX5_tell_20 rfl rfl rfl ?_
    refine gf_X5_21 rfl rfl (hB 0 (by decide)) dX5_tell_21 rfl ?_
    refine gf_X5_123 rfl rfl (hB 2 (by decide)) dX5_tell_24 rfl ?_
    refine jr_iload_n 2 dX5_tell_27 rfl rfl rfl ?_
    obtain ⟨hb_2, hF⟩ := jck_e hF
    refine jh_iald (ci := 1) (k := 2) rfl (hB 2 (by decide)) (by decide) rfl rfl hb_2 dX5_tell_28 rfl ?_
    refine jr_topi (fun sw_1 esw_1 => ?_)
    have hF := jlet_e hF sw_1 esw_1
    by_cases s1 : sw_1 = 1
    · have hF := jif_p hF s1
      refine jr_look (off := 33) 62 dX5_tell_29 (by decide) (by rw [s1]; decide) (by decide) ?_
      refine jr_aload_n 1 dX5_tell_62 rfl rfl rfl ?_
      refine jr_iload_n 0 dX5_tell_63 rfl rfl rfl ?_
      obtain ⟨r_2, M_2, hc_2, hF⟩ := jbd_e hF
      refine jh_callV1 (v := .int r_2) (o := 0) (as := [.int x2_1]) (st := []) (JF_X5_tellHeavy hB hc_2) cw_X5_252 (iv_X5_tellHeavy) ⟨rfl, rfl, by decide, by decide⟩ rfl (hB 0 (by decide)) rfl rfl (Nat.le_of_ble_eq_true rfl) dX5_tell_64 rfl ?_
      exact jh_iret rfl dX5_tell_67 hF
    · have hF := jif_n hF s1
      by_cases s2 : sw_1 = 2
      · have hF := jif_p hF s2
        refine jr_look (off := 27) 56 dX5_tell_29 (by decide) (by rw [s2]; decide) (by decide) ?_
        refine jr_aload_n 1 dX5_tell_56 rfl rfl rfl ?_
        refine jr_iload_n 0 dX5_tell_57 rfl rfl rfl ?_
        obtain ⟨r_3, M_3, hc_3, hF⟩ := jbd_e hF
        refine jh_callV1 (v := .int r_3) (o := 0) (as := [.int x2_1]) (st := []) (JF_X5_tellEnchanted hB hc_3) cw_X5_249 (iv_X5_tellEnchanted) ⟨rfl, rfl, by decide, by decide⟩ rfl (hB 0 (by decide)) rfl rfl (Nat.le_of_ble_eq_true rfl) dX5_tell_58 rfl ?_
        exact jh_iret rfl dX5_tell_61 hF
      · have hF := jif_n hF s2
        refine jr_look (off := 39) 68 dX5_tell_29 (by decide) (jlook2 s1 s2) (by decide) ?_
        refine jr_aload_n 1 dX5_tell_68 rfl rfl rfl ?_
        refine jr_iload_n 0 dX5_tell_69 rfl rfl rfl ?_
        obtain ⟨r_4, M_4, hc_4, hF⟩ := jbd_e hF
        refine jh_callV1 (v := .int r_4) (o := 0) (as := [.int x2_1]) (st := []) (JF_X5_tellDreamer hB hc_4) cw_X5_255 (iv_X5_tellDreamer) ⟨rfl, rfl, by decide, by decide⟩ rfl (hB 0 (by decide)) rfl rfl (Nat.le_of_ble_eq_true rfl) dX5_tell_70 rfl ?_
        exact jh_iret rfl dX5_tell_73 hF
  · have hF := jif_p hF c1
    refine jr_iconst (v := (-1)) dX5_tell_8 (by decide) rfl ?_
    exact jh_iret rfl dX5_tell_9 hF
set_option maxHeartbeats 4000000 in
set_option maxRecDepth 100000 in
theorem JF_X5_rouse {E : jx_E} (hB : ∀ o, o < 8 → jB E o) {a1 : Int32} {M : jx_M} {r : Int32} {M' : jx_M} (hF : F_X5_rouse a1 M = some (r, M')) : jC E yX5_rouse cX5_rouse 3 (some FieldType.int) rm_X5_rouse [.ref (ja E 0 0), .int a1] M (fun x M'' => x = some (.int r) ∧ M'' = M') := by
  refine jC.ofJ (L := [(0, .ref (ja E 0 0)), (1, .int a1)]) (by decide +kernel) (Nat.le_of_ble_eq_true rfl) rfl ?_
  unfold F_X5_rouse at hF
  refine jr_aload_n 0 dX5_rouse_0 rfl rfl rfl ?_
  refine jr_iload_n 1 dX5_rouse_1 rfl rfl rfl ?_
  obtain ⟨r_1, M_1, hc_1, hF⟩ := jbd_e hF
  refine jh_callV1 (v := .int r_1) (o := 0) (as := [.int a1]) (st := []) (JF_X5_isPerson hB hc_1) cw_X5_120 (iv_X5_isPerson) ⟨rfl, rfl, by decide, by decide⟩ rfl (hB 0 (by decide)) rfl rfl (Nat.le_of_ble_eq_true rfl) dX5_rouse_2 rfl ?_
  refine jr_if_ne 10 dX5_rouse_5 (by decide) rfl (fun c1 => ?_) (fun c1 => ?_)
  · have hF := jif_n hF c1
    refine jr_aload_n 0 dX5_rouse_10 rfl rfl rfl ?_
    refine gf_X5_21 rfl rfl (hB 0 (by decide)) dX5_rouse_11 rfl ?_
    refine gf_X5_123 rfl rfl (hB 2 (by decide)) dX5_rouse_14 rfl ?_
    refine jr_iload_n 1 dX5_rouse_17 rfl rfl rfl ?_
    obtain ⟨hb_1, hF⟩ := jck_e hF
    refine jh_iald (ci := 1) (k := 2) rfl (hB 2 (by decide)) (by decide) rfl rfl hb_1 dX5_rouse_18 rfl ?_
    refine jr_iconst (v := 2) dX5_rouse_19 (by decide) rfl ?_
    refine jr_icmp_ne 27 dX5_rouse_20 (by decide) rfl (fun c1 => ?_) (fun c1 => ?_)
    · have hF := jif_n hF c1
      refine jr_iconst (v := 0) dX5_rouse_27 (by decide) rfl ?_
      refine jr_istore_n (L' := [(2, .int 0), (0, .ref (ja E 0 0)), (1, .int a1)]) dX5_rouse_28 rfl (by decide) rfl rfl ?_
      refine jr_aload_n 1 dX5_rouse_29 rfl rfl rfl ?_
      refine jr_iload_n 0 dX5_rouse_30 rfl rfl rfl ?_
      refine jr_if_eq 38 dX5_rouse_31 (by decide) rfl (fun c1 => ?_) (fun c1 => absurd c1 (by decide))
      refine jr_iconst (v := 4) dX5_rouse_38 (by decide) rfl ?_
      obtain ⟨r_2, M_2, hc_2, hF⟩ := jbd_e hF
      refine jh_callV0 (o := 0) (as := [.int 4]) (st := []) (JF_X5_leave hB hc_2) cw_X5_258 (iv_X5_leave) ⟨rfl, rfl, by decide, by decide⟩ rfl (hB 0 (by decide)) rfl rfl (Nat.le_of_ble_eq_true rfl) dX5_rouse_39 rfl ?_
      refine jr_iload_n 0 dX5_rouse_42 rfl rfl rfl ?_
      refine jr_if_eq 51 dX5_rouse_43 (by decide) rfl (fun c1 => ?_) (fun c1 => absurd c1 (by decide))
      refine jr_iload_n 2 dX5_rouse_51 rfl rfl rfl ?_
      exact jh_iret rfl dX5_rouse_52 hF
    · have hF := jif_p hF c1
      refine jr_iconst (v := 1) dX5_rouse_23 (by decide) rfl ?_
      refine jr_goto 28 dX5_rouse_24 (by decide) ?_
      refine jr_istore_n (L' := [(2, .int 1), (0, .ref (ja E 0 0)), (1, .int a1)]) dX5_rouse_28 rfl (by decide) rfl rfl ?_
      refine jr_aload_n 1 dX5_rouse_29 rfl rfl rfl ?_
      refine jr_iload_n 0 dX5_rouse_30 rfl rfl rfl ?_
      refine jr_if_eq 38 dX5_rouse_31 (by decide) rfl (fun c1 => absurd c1 (by decide)) (fun c1 => ?_)
      refine jr_iconst (v := 5) dX5_rouse_34 (by decide) rfl ?_
      refine jr_goto 39 dX5_rouse_35 (by decide) ?_
      obtain ⟨r_3, M_3, hc_3, hF⟩ := jbd_e hF
      refine jh_callV0 (o := 0) (as := [.int 5]) (st := []) (JF_X5_leave hB hc_3) cw_X5_258 (iv_X5_leave) ⟨rfl, rfl, by decide, by decide⟩ rfl (hB 0 (by decide)) rfl rfl (Nat.le_of_ble_eq_true rfl) dX5_rouse_39 rfl ?_
      refine jr_iload_n 0 dX5_rouse_42 rfl rfl rfl ?_
      refine jr_if_eq 51 dX5_rouse_43 (by decide) rfl (fun c1 => absurd c1 (by decide)) (fun c1 => ?_)
      refine jr_bipush (v := 70) dX5_rouse_46 (by decide) rfl ?_
      refine jr_goto 52 dX5_rouse_48 (by decide) ?_
      exact jh_iret rfl dX5_rouse_52 hF
  · have hF := jif_p hF c1
    refine jr_iconst (v := (-1)) dX5_rouse_8 (by decide) rfl ?_
    exact jh_iret rfl dX5_rouse_9 hF
set_option maxHeartbeats 4000000 in
set_option maxRecDepth 100000 in
theorem JF_X5_as {E : jx_E} (hB : ∀ o, o < 8 → jB E o) {a1 : Int32} {a2 : Int32} {M : jx_M} {r : Int32} {M' : jx_M} (hF : F_X5_as a1 a2 M = some (r, M')) : jC E yX5_as cX5_as 3 (some FieldType.int) rm_X5_as [.ref (ja E 0 0), .int a1, .int a2] M (fun x M'' => x = some (.int r) ∧ M'' = M') := by
  refine jC.ofJ (L := [(0, .ref (ja E 0 0)), (1, .int a1), (2, .int a2)]) (by decide +kernel) (Nat.le_of_ble_eq_true rfl) rfl ?_
  unfold F_X5_as at hF
  refine jr_aload_n 0 dX5_as_0 rfl rfl rfl ?_
  refine jr_iconst (v := 0) dX5_as_1 (by decide) rfl ?_
  refine pf_X5_75 rfl rfl (hB 0 (by decide)) dX5_as_2 ⟨rfl, rfl⟩ rfl (fun M_1 eM_1 => ?_)
  have hF := jlet_e hF M_1 eM_1
  refine jr_aload_n 0 dX5_as_5 rfl rfl rfl ?_
  refine jr_iload_n 1 dX5_as_6 rfl rfl rfl ?_
  obtain ⟨r_1, M_2, hc_1, hF⟩ := jbd_e hF
  refine jh_callV1 (v := .int r_1) (o := 0) (as := [.int a1]) (st := []) (JF_X5_isPerson hB hc_1) cw_X5_120 (iv_X5_isPerson) ⟨rfl, rfl, by decide, by decide⟩ rfl (hB 0 (by decide)) rfl rfl (Nat.le_of_ble_eq_true rfl) dX5_as_7 rfl ?_
  refine jr_if_ne 15 dX5_as_10 (by decide) rfl (fun c1 => ?_) (fun c1 => ?_)
  · have hF := jif_n hF c1
    refine jr_iload_n 2 dX5_as_15 rfl rfl rfl ?_
    refine jr_if_lt 24 dX5_as_16 (by decide) rfl (fun c1 => ?_) (fun c1 => ?_)
    · have hF := jif_p hF c1
      refine jr_bipush (v := (-2)) dX5_as_24 (by decide) rfl ?_
      exact jh_iret rfl dX5_as_26 hF
    · have hF := jif_n hF c1
      refine jr_iload_n 2 dX5_as_19 rfl rfl rfl ?_
      refine jr_iconst (v := 3) dX5_as_20 (by decide) rfl ?_
      refine jr_icmp_lt 27 dX5_as_21 (by decide) rfl (fun c1 => ?_) (fun c1 => ?_)
      · have hF := jif_p hF c1
        refine jr_aload_n 0 dX5_as_27 rfl rfl rfl ?_
        refine gf_X5_21 rfl rfl (hB 0 (by decide)) dX5_as_28 rfl ?_
        refine gf_X5_123 rfl rfl (hB 2 (by decide)) dX5_as_31 rfl ?_
        refine jr_iload_n 1 dX5_as_34 rfl rfl rfl ?_
        obtain ⟨hb_1, hF⟩ := jck_e hF
        refine jh_iald (ci := 1) (k := 2) rfl (hB 2 (by decide)) (by decide) rfl rfl hb_1 dX5_as_35 rfl ?_
        refine jr_iload_n 2 dX5_as_36 rfl rfl rfl ?_
        refine jr_icmp_lt 44 dX5_as_37 (by decide) rfl (fun c1 => ?_) (fun c1 => ?_)
        · have hF := jif_p hF c1
          refine jr_aload_n 0 dX5_as_44 rfl rfl rfl ?_
          refine jr_iconst (v := 2) dX5_as_45 (by decide) rfl ?_
          obtain ⟨r_2, M_3, hc_2, hF⟩ := jbd_e hF
          refine jh_callV1 (v := .int r_2) (o := 0) (as := [.int 2]) (st := []) (JF_X5_faulty hB hc_2) cw_X5_96 (iv_X5_faulty) ⟨rfl, rfl, by decide, by decide⟩ rfl (hB 0 (by decide)) rfl rfl (Nat.le_of_ble_eq_true rfl) dX5_as_46 rfl ?_
          exact jh_iret rfl dX5_as_49 hF
        · have hF := jif_n hF c1
          refine jr_iconst (v := 1) dX5_as_40 (by decide) rfl ?_
          refine jr_goto 49 dX5_as_41 (by decide) ?_
          exact jh_iret rfl dX5_as_49 hF
      · have hF := jif_n hF c1
        refine jr_bipush (v := (-2)) dX5_as_24 (by decide) rfl ?_
        exact jh_iret rfl dX5_as_26 hF
  · have hF := jif_p hF c1
    refine jr_iconst (v := (-1)) dX5_as_13 (by decide) rfl ?_
    exact jh_iret rfl dX5_as_14 hF
set_option maxHeartbeats 4000000 in
set_option maxRecDepth 100000 in
theorem JF_X5_trace {E : jx_E} (hB : ∀ o, o < 8 → jB E o) {M : jx_M} {r : Int32} {M' : jx_M} (hF : F_X5_trace  M = some (r, M')) : jC E yX5_trace cX5_trace 1 (some FieldType.int) rm_X5_trace [.ref (ja E 0 0)] M (fun x M'' => x = some (.int r) ∧ M'' = M') := by
  refine jC.ofJ (L := [(0, .ref (ja E 0 0))]) (by decide +kernel) (Nat.le_of_ble_eq_true rfl) rfl ?_
  unfold F_X5_trace at hF
  refine jr_aload_n 0 dX5_trace_0 rfl rfl rfl ?_
  refine gf_X5_78 rfl rfl (hB 0 (by decide)) dX5_trace_1 rfl ?_
  exact jh_iret rfl dX5_trace_4 hF
set_option maxHeartbeats 4000000 in
set_option maxRecDepth 100000 in
theorem JF_X5_fault {E : jx_E} (hB : ∀ o, o < 8 → jB E o) {M : jx_M} {r : Int32} {M' : jx_M} (hF : F_X5_fault  M = some (r, M')) : jC E yX5_fault cX5_fault 1 (some FieldType.int) rm_X5_fault [.ref (ja E 0 0)] M (fun x M'' => x = some (.int r) ∧ M'' = M') := by
  refine jC.ofJ (L := [(0, .ref (ja E 0 0))]) (by decide +kernel) (Nat.le_of_ble_eq_true rfl) rfl ?_
  unfold F_X5_fault at hF
  refine jr_aload_n 0 dX5_fault_0 rfl rfl rfl ?_
  refine gf_X5_75 rfl rfl (hB 0 (by decide)) dX5_fault_1 rfl ?_
  exact jh_iret rfl dX5_fault_4 hF
set_option maxHeartbeats 4000000 in
set_option maxRecDepth 100000 in
theorem JF_X5_many {E : jx_E} (hB : ∀ o, o < 8 → jB E o) {a1 : Int32} {M : jx_M} {r : Int32} {M' : jx_M} (hF : F_X5_many a1 M = some (r, M')) : jC E yX5_many cX5_many 2 (some FieldType.int) rm_X5_many [.ref (ja E 0 0), .int a1] M (fun x M'' => x = some (.int r) ∧ M'' = M') := by
  refine jC.ofJ (L := [(0, .ref (ja E 0 0)), (1, .int a1)]) (by decide +kernel) (Nat.le_of_ble_eq_true rfl) rfl ?_
  unfold F_X5_many at hF
  refine jr_iload_n 1 dX5_many_0 rfl rfl rfl ?_
  refine jr_if_lt 9 dX5_many_1 (by decide) rfl (fun c1 => ?_) (fun c1 => ?_)
  · have hF := jif_p hF c1
    refine jr_bipush (v := (-2)) dX5_many_9 (by decide) rfl ?_
    exact jh_iret rfl dX5_many_11 hF
  · have hF := jif_n hF c1
    refine jr_iload_n 1 dX5_many_4 rfl rfl rfl ?_
    refine jr_iconst (v := 5) dX5_many_5 (by decide) rfl ?_
    refine jr_icmp_lt 12 dX5_many_6 (by decide) rfl (fun c1 => ?_) (fun c1 => ?_)
    · have hF := jif_p hF c1
      refine jr_iload_n 1 dX5_many_12 rfl rfl rfl ?_
      by_cases s0 : a1 = 0
      · have hF := jif_p hF s0
        refine jr_tabIn (v := 0) (off := 31) 44 dX5_many_13 s0 (by decide) (by decide) ?_
        refine jr_aload_n 0 dX5_many_44 rfl rfl rfl ?_
        refine gf_X5_21 rfl rfl (hB 0 (by decide)) dX5_many_45 rfl ?_
        refine gf_X5_117 rfl rfl (hB 2 (by decide)) dX5_many_48 rfl ?_
        exact jh_iret rfl dX5_many_51 hF
      · have hF := jif_n hF s0
        by_cases s1 : a1 = 1
        · have hF := jif_p hF s1
          refine jr_tabIn (v := 1) (off := 39) 52 dX5_many_13 s1 (by decide) (by decide) ?_
          refine jr_aload_n 0 dX5_many_52 rfl rfl rfl ?_
          refine gf_X5_21 rfl rfl (hB 0 (by decide)) dX5_many_53 rfl ?_
          refine gf_X5_221 rfl rfl (hB 2 (by decide)) dX5_many_56 rfl ?_
          exact jh_iret rfl dX5_many_59 hF
        · have hF := jif_n hF s1
          by_cases s2 : a1 = 2
          · have hF := jif_p hF s2
            refine jr_tabIn (v := 2) (off := 47) 60 dX5_many_13 s2 (by decide) (by decide) ?_
            refine jr_aload_n 0 dX5_many_60 rfl rfl rfl ?_
            refine gf_X5_28 rfl rfl (hB 0 (by decide)) dX5_many_61 rfl ?_
            refine gf_X5_157 rfl rfl (hB 3 (by decide)) dX5_many_64 rfl ?_
            exact jh_iret rfl dX5_many_67 hF
          · have hF := jif_n hF s2
            by_cases s3 : a1 = 3
            · have hF := jif_p hF s3
              refine jr_tabIn (v := 3) (off := 55) 68 dX5_many_13 s3 (by decide) (by decide) ?_
              refine jr_aload_n 0 dX5_many_68 rfl rfl rfl ?_
              refine gf_X5_35 rfl rfl (hB 0 (by decide)) dX5_many_69 rfl ?_
              refine gf_X5_111 rfl rfl (hB 4 (by decide)) dX5_many_72 rfl ?_
              exact jh_iret rfl dX5_many_75 hF
            · have hF := jif_n hF s3
              refine jr_tabOut 3 76 dX5_many_13 (by decide) (fun j hj => ?_) (by decide) ?_
              · rcases (show j = 0 ∨ j = 1 ∨ j = 2 ∨ j = 3 by omega) with rfl | rfl | rfl | rfl
                · exact s0
                · exact s1
                · exact s2
                · exact s3
              refine jr_aload_n 0 dX5_many_76 rfl rfl rfl ?_
              refine gf_X5_28 rfl rfl (hB 0 (by decide)) dX5_many_77 rfl ?_
              refine gf_X5_148 rfl rfl (hB 3 (by decide)) dX5_many_80 rfl ?_
              exact jh_iret rfl dX5_many_83 hF
    · have hF := jif_n hF c1
      refine jr_bipush (v := (-2)) dX5_many_9 (by decide) rfl ?_
      exact jh_iret rfl dX5_many_11 hF
