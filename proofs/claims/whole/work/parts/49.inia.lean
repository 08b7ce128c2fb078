theorem oi_X3 : Cond.methodLink RX3 3 Lib.objectInit ∈ lw_g := lw_g_of 172 (by decide +kernel) (by decide +kernel)
theorem fi_X3_9 : Cond.fieldLink RX3 9 (TX3 0).1 (TX3 0).2.1 (TX3 0).2.2.1 ∈ lw_g := lw_g_of 173 (by decide +kernel) (by decide +kernel)
theorem fi_X3_15 : Cond.fieldLink RX3 15 (TX3 1).1 (TX3 1).2.1 (TX3 1).2.2.1 ∈ lw_g := lw_g_of 175 (by decide +kernel) (by decide +kernel)
theorem fi_X3_19 : Cond.fieldLink RX3 19 (TX3 2).1 (TX3 2).2.1 (TX3 2).2.2.1 ∈ lw_g := lw_g_of 176 (by decide +kernel) (by decide +kernel)
theorem fi_X3_22 : Cond.fieldLink RX3 22 (TX3 3).1 (TX3 3).2.1 (TX3 3).2.2.1 ∈ lw_g := lw_g_of 177 (by decide +kernel) (by decide +kernel)
theorem cI_X3 (l : Launch) (D : va_G) (ci : ClassId) (sz a : Nat) : iC l D ci sz [(a, .inr (3, [.int 0, .null, .null, .null]))] (fun u => ∃ q1 q2 q3 : Nat, u = [(a, .inr (3, [.int 0, .ref q1, .ref q2, .ref q3])), (q1, .inl (ci, 8, .inl fun _ => 0)), (q2, .inl (ci, 8, .inl fun _ => 0)), (q3, .inl (ci, 8, .inl fun _ => 0))]) yX3_init cX3_init 1 { frames := 1, cells := 3, slots := 24, locals := 12 } 3 24 [.ref a] := by
  refine iC.ofJ (by decide) rfl (Nat.le_of_ble_eq_true rfl) rfl ?_
  refine jr_aload_n 0 dX3_init_0 rfl rfl rfl ?_
  refine ji_obj oi_X3 (by decide) (Nat.le_of_ble_eq_true rfl) dX3_init_1 rfl ?_
  refine jr_aload_n 0 dX3_init_4 rfl rfl rfl ?_
  refine jr_iconst (v := 0) dX3_init_5 rfl rfl ?_
  refine ji_put (w' := [(a, .inr (3, [.int 0, .null, .null, .null]))]) jcl3 0 0 rfl (by decide) fi_X3_9 rfl ⟨rfl, rfl⟩ (Nat.le_of_ble_eq_true rfl) rfl dX3_init_6 rfl ?_
  refine jr_aload_n 0 dX3_init_9 rfl rfl rfl ?_
  refine jr_bipush (v := 8) dX3_init_10 rfl rfl ?_
  refine ji_newa (N := 8) (fun q h => Or.inr h) rfl (by decide) (by decide) (by decide) dX3_init_12 rfl (fun q1 => ?_)
  refine ji_putF (w' := [(a, .inr (3, [.int 0, .ref q1, .null, .null])), (q1, .inl (ci, 8, .inl fun _ => 0))]) jcl3 0 1 rfl (by decide) fi_X3_15 rfl rfl ⟨rfl, rfl⟩ (Nat.le_of_ble_eq_true rfl) rfl dX3_init_14 rfl ?_
  refine jr_aload_n 0 dX3_init_17 rfl rfl rfl ?_
  refine jr_bipush (v := 8) dX3_init_18 rfl rfl ?_
  refine ji_newa (N := 8) (fun q h => Or.inr h) rfl (by decide) (by decide) (by decide) dX3_init_20 rfl (fun q2 => ?_)
  refine ji_putF (w' := [(a, .inr (3, [.int 0, .ref q1, .ref q2, .null])), (q1, .inl (ci, 8, .inl fun _ => 0)), (q2, .inl (ci, 8, .inl fun _ => 0))]) jcl3 0 2 rfl (by decide) fi_X3_19 rfl rfl ⟨rfl, rfl⟩ (Nat.le_of_ble_eq_true rfl) rfl dX3_init_22 rfl ?_
  refine jr_aload_n 0 dX3_init_25 rfl rfl rfl ?_
  refine jr_bipush (v := 8) dX3_init_26 rfl rfl ?_
  refine ji_newa (N := 8) (fun q h => Or.inr h) rfl (by decide) (by decide) (by decide) dX3_init_28 rfl (fun q3 => ?_)
  refine ji_putF (w' := [(a, .inr (3, [.int 0, .ref q1, .ref q2, .ref q3])), (q1, .inl (ci, 8, .inl fun _ => 0)), (q2, .inl (ci, 8, .inl fun _ => 0)), (q3, .inl (ci, 8, .inl fun _ => 0))]) jcl3 0 3 rfl (by decide) fi_X3_22 rfl rfl ⟨rfl, rfl⟩ (Nat.le_of_ble_eq_true rfl) rfl dX3_init_30 rfl ?_
  exact ji_ret ⟨q1, q2, q3, rfl⟩ dX3_init_33
theorem oi_X1 : Cond.methodLink RX1 5 Lib.objectInit ∈ lw_g := lw_g_of 75 (by decide +kernel) (by decide +kernel)
theorem fi_X1_11 : Cond.fieldLink RX1 11 (TX1 0).1 (TX1 0).2.1 (TX1 0).2.2.1 ∈ lw_g := lw_g_of 76 (by decide +kernel) (by decide +kernel)
theorem fi_X1_15 : Cond.fieldLink RX1 15 (TX1 1).1 (TX1 1).2.1 (TX1 1).2.2.1 ∈ lw_g := lw_g_of 79 (by decide +kernel) (by decide +kernel)
theorem fi_X1_18 : Cond.fieldLink RX1 18 (TX1 2).1 (TX1 2).2.1 (TX1 2).2.2.1 ∈ lw_g := lw_g_of 82 (by decide +kernel) (by decide +kernel)
theorem fi_X1_22 : Cond.fieldLink RX1 22 (TX1 3).1 (TX1 3).2.1 (TX1 3).2.2.1 ∈ lw_g := lw_g_of 84 (by decide +kernel) (by decide +kernel)
theorem fi_X1_25 : Cond.fieldLink RX1 25 (TX1 4).1 (TX1 4).2.1 (TX1 4).2.2.1 ∈ lw_g := lw_g_of 87 (by decide +kernel) (by decide +kernel)
theorem fi_X1_28 : Cond.fieldLink RX1 28 (TX1 5).1 (TX1 5).2.1 (TX1 5).2.2.1 ∈ lw_g := lw_g_of 90 (by decide +kernel) (by decide +kernel)
theorem fi_X1_31 : Cond.fieldLink RX1 31 (TX1 6).1 (TX1 6).2.1 (TX1 6).2.2.1 ∈ lw_g := lw_g_of 93 (by decide +kernel) (by decide +kernel)
theorem cI_X1 (l : Launch) (D : va_G) (ci : ClassId) (sz a : Nat) : iC l D ci sz [(a, .inr (1, [.int 0, .int 0, .null, .null, .null, .null, .null]))] (fun u => ∃ q1 q2 q3 q4 q5 : Nat, u = [(a, .inr (1, [.int 0, .int 0, .ref q1, .ref q2, .ref q3, .ref q4, .ref q5])), (q1, .inl (ci, 6, .inl fun _ => 0)), (q2, .inl (ci, 6, .inl fun _ => 0)), (q3, .inl (ci, 6, .inl fun _ => 0)), (q4, .inl (ci, 6, .inl fun _ => 0)), (q5, .inl (ci, 6, .inl fun _ => 0))]) yX1_init cX1_init 1 { frames := 1, cells := 5, slots := 30, locals := 12 } 5 30 [.ref a] := by
  refine iC.ofJ (by decide) rfl (Nat.le_of_ble_eq_true rfl) rfl ?_
  refine jr_aload_n 0 dX1_init_0 rfl rfl rfl ?_
  refine ji_obj oi_X1 (by decide) (Nat.le_of_ble_eq_true rfl) dX1_init_1 rfl ?_
  refine jr_aload_n 0 dX1_init_4 rfl rfl rfl ?_
  refine jr_iconst (v := 0) dX1_init_5 rfl rfl ?_
  refine ji_put (w' := [(a, .inr (1, [.int 0, .int 0, .null, .null, .null, .null, .null]))]) jcl1 0 0 rfl (by decide) fi_X1_11 rfl ⟨rfl, rfl⟩ (Nat.le_of_ble_eq_true rfl) rfl dX1_init_6 rfl ?_
  refine jr_aload_n 0 dX1_init_9 rfl rfl rfl ?_
  refine jr_iconst (v := 0) dX1_init_10 rfl rfl ?_
  refine ji_put (w' := [(a, .inr (1, [.int 0, .int 0, .null, .null, .null, .null, .null]))]) jcl1 0 1 rfl (by decide) fi_X1_15 rfl ⟨rfl, rfl⟩ (Nat.le_of_ble_eq_true rfl) rfl dX1_init_11 rfl ?_
  refine jr_aload_n 0 dX1_init_14 rfl rfl rfl ?_
  refine jr_bipush (v := 6) dX1_init_15 rfl rfl ?_
  refine ji_newa (N := 6) (fun q h => Or.inr h) rfl (by decide) (by decide) (by decide) dX1_init_17 rfl (fun q1 => ?_)
  refine ji_putF (w' := [(a, .inr (1, [.int 0, .int 0, .ref q1, .null, .null, .null, .null])), (q1, .inl (ci, 6, .inl fun _ => 0))]) jcl1 0 2 rfl (by decide) fi_X1_18 rfl rfl ⟨rfl, rfl⟩ (Nat.le_of_ble_eq_true rfl) rfl dX1_init_19 rfl ?_
  refine jr_aload_n 0 dX1_init_22 rfl rfl rfl ?_
  refine jr_bipush (v := 6) dX1_init_23 rfl rfl ?_
  refine ji_newa (N := 6) (fun q h => Or.inr h) rfl (by decide) (by decide) (by decide) dX1_init_25 rfl (fun q2 => ?_)
  refine ji_putF (w' := [(a, .inr (1, [.int 0, .int 0, .ref q1, .ref q2, .null, .null, .null])), (q1, .inl (ci, 6, .inl fun _ => 0)), (q2, .inl (ci, 6, .inl fun _ => 0))]) jcl1 0 3 rfl (by decide) fi_X1_22 rfl rfl ⟨rfl, rfl⟩ (Nat.le_of_ble_eq_true rfl) rfl dX1_init_27 rfl ?_
  refine jr_aload_n 0 dX1_init_30 rfl rfl rfl ?_
  refine jr_bipush (v := 6) dX1_init_31 rfl rfl ?_
  refine ji_newa (N := 6) (fun q h => Or.inr h) rfl (by decide) (by decide) (by decide) dX1_init_33 rfl (fun q3 => ?_)
  refine ji_putF (w' := [(a, .inr (1, [.int 0, .int 0, .ref q1, .ref q2, .ref q3, .null, .null])), (q1, .inl (ci, 6, .inl fun _ => 0)), (q2, .inl (ci, 6, .inl fun _ => 0)), (q3, .inl (ci, 6, .inl fun _ => 0))]) jcl1 0 4 rfl (by decide) fi_X1_25 rfl rfl ⟨rfl, rfl⟩ (Nat.le_of_ble_eq_true rfl) rfl dX1_init_35 rfl ?_
  refine jr_aload_n 0 dX1_init_38 rfl rfl rfl ?_
  refine jr_bipush (v := 6) dX1_init_39 rfl rfl ?_
  refine ji_newa (N := 6) (fun q h => Or.inr h) rfl (by decide) (by decide) (by decide) dX1_init_41 rfl (fun q4 => ?_)
  refine ji_putF (w' := [(a, .inr (1, [.int 0, .int 0, .ref q1, .ref q2, .ref q3, .ref q4, .null])), (q1, .inl (ci, 6, .inl fun _ => 0)), (q2, .inl (ci, 6, .inl fun _ => 0)), (q3, .inl (ci, 6, .inl fun _ => 0)), (q4, .inl (ci, 6, .inl fun _ => 0))]) jcl1 0 5 rfl (by decide) fi_X1_28 rfl rfl ⟨rfl, rfl⟩ (Nat.le_of_ble_eq_true rfl) rfl dX1_init_43 rfl ?_
  refine jr_aload_n 0 dX1_init_46 rfl rfl rfl ?_
  refine jr_bipush (v := 6) dX1_init_47 rfl rfl ?_
  refine ji_newa (N := 6) (fun q h => Or.inr h) rfl (by decide) (by decide) (by decide) dX1_init_49 rfl (fun q5 => ?_)
  refine ji_putF (w' := [(a, .inr (1, [.int 0, .int 0, .ref q1, .ref q2, .ref q3, .ref q4, .ref q5])), (q1, .inl (ci, 6, .inl fun _ => 0)), (q2, .inl (ci, 6, .inl fun _ => 0)), (q3, .inl (ci, 6, .inl fun _ => 0)), (q4, .inl (ci, 6, .inl fun _ => 0)), (q5, .inl (ci, 6, .inl fun _ => 0))]) jcl1 0 6 rfl (by decide) fi_X1_31 rfl rfl ⟨rfl, rfl⟩ (Nat.le_of_ble_eq_true rfl) rfl dX1_init_51 rfl ?_
  exact ji_ret ⟨q1, q2, q3, q4, q5, rfl⟩ dX1_init_54
theorem oi_X0 : Cond.methodLink RX0 3 Lib.objectInit ∈ lw_g := lw_g_of 192 (by decide +kernel) (by decide +kernel)
theorem fi_X0_9 : Cond.fieldLink RX0 9 (TX0 0).1 (TX0 0).2.1 (TX0 0).2.2.1 ∈ lw_g := lw_g_of 193 (by decide +kernel) (by decide +kernel)
theorem fi_X0_15 : Cond.fieldLink RX0 15 (TX0 1).1 (TX0 1).2.1 (TX0 1).2.2.1 ∈ lw_g := lw_g_of 195 (by decide +kernel) (by decide +kernel)
theorem fi_X0_19 : Cond.fieldLink RX0 19 (TX0 2).1 (TX0 2).2.1 (TX0 2).2.2.1 ∈ lw_g := lw_g_of 197 (by decide +kernel) (by decide +kernel)
theorem fi_X0_22 : Cond.fieldLink RX0 22 (TX0 4).1 (TX0 4).2.1 (TX0 4).2.2.1 ∈ lw_g := lw_g_of 200 (by decide +kernel) (by decide +kernel)
theorem fi_X0_25 : Cond.fieldLink RX0 25 (TX0 5).1 (TX0 5).2.1 (TX0 5).2.2.1 ∈ lw_g := lw_g_of 201 (by decide +kernel) (by decide +kernel)
theorem fi_X0_28 : Cond.fieldLink RX0 28 (TX0 6).1 (TX0 6).2.1 (TX0 6).2.2.1 ∈ lw_g := lw_g_of 202 (by decide +kernel) (by decide +kernel)
theorem fi_X0_31 : Cond.fieldLink RX0 31 (TX0 7).1 (TX0 7).2.1 (TX0 7).2.2.1 ∈ lw_g := lw_g_of 203 (by decide +kernel) (by decide +kernel)
theorem fi_X0_34 : Cond.fieldLink RX0 34 (TX0 8).1 (TX0 8).2.1 (TX0 8).2.2.1 ∈ lw_g := lw_g_of 204 (by decide +kernel) (by decide +kernel)
theorem fi_X0_37 : Cond.fieldLink RX0 37 (TX0 9).1 (TX0 9).2.1 (TX0 9).2.2.1 ∈ lw_g := lw_g_of 205 (by decide +kernel) (by decide +kernel)
theorem fi_X0_40 : Cond.fieldLink RX0 40 (TX0 10).1 (TX0 10).2.1 (TX0 10).2.2.1 ∈ lw_g := lw_g_of 206 (by decide +kernel) (by decide +kernel)
theorem fi_X0_43 : Cond.fieldLink RX0 43 (TX0 3).1 (TX0 3).2.1 (TX0 3).2.2.1 ∈ lw_g := lw_g_of 199 (by decide +kernel) (by decide +kernel)
theorem fi_X0_47 : Cond.fieldLink RX0 47 (TX0 11).1 (TX0 11).2.1 (TX0 11).2.2.1 ∈ lw_g := lw_g_of 207 (by decide +kernel) (by decide +kernel)
theorem fi_X0_50 : Cond.fieldLink RX0 50 (TX0 12).1 (TX0 12).2.1 (TX0 12).2.2.1 ∈ lw_g := lw_g_of 208 (by decide +kernel) (by decide +kernel)
theorem fi_X0_53 : Cond.fieldLink RX0 53 (TX0 13).1 (TX0 13).2.1 (TX0 13).2.2.1 ∈ lw_g := lw_g_of 209 (by decide +kernel) (by decide +kernel)
theorem cI_X0 (l : Launch) (D : va_G) (ci : ClassId) (sz a ld : Nat) : iC l D ci sz [(a, .inr (0, [.null, .int 0, .int 0, .null, .null, .null, .null, .null, .null, .null, .null, .int 0, .int 0, .int 0]))] (fun u => ∃ q1 q2 q3 q4 q5 q6 q7 q8 : Nat, u = [(a, .inr (0, [.ref q1, .int 0, .int 0, .ref ld, .ref q2, .ref q3, .ref q4, .ref q5, .ref q6, .ref q7, .ref q8, .int 0, .int 0, .int 0])), (q1, .inl (ci, 40, .inl fun _ => 0)), (q2, .inl (ci, 160, .inl fun _ => 0)), (q3, .inl (ci, 160, .inl fun _ => 0)), (q4, .inl (ci, 240, .inl fun _ => 0)), (q5, .inl (ci, 240, .inl fun _ => 0)), (q6, .inl (ci, 4, .inl fun _ => 0)), (q7, .inl (ci, 4, .inl fun _ => 0)), (q8, .inl (ci, 6, .inl fun _ => 0))]) yX0_init cX0_init 2 { frames := 1, cells := 8, slots := 854, locals := 12 } 8 854 [.ref a, .ref ld] := by
  refine iC.ofJ (by decide) rfl (Nat.le_of_ble_eq_true rfl) rfl ?_
  refine jr_aload_n 0 dX0_init_0 rfl rfl rfl ?_
  refine ji_obj oi_X0 (by decide) (Nat.le_of_ble_eq_true rfl) dX0_init_1 rfl ?_
  refine jr_aload_n 0 dX0_init_4 rfl rfl rfl ?_
  refine jr_bipush (v := 40) dX0_init_5 rfl rfl ?_
  refine ji_newa (N := 40) (fun q h => Or.inr h) rfl (by decide) (by decide) (by decide) dX0_init_7 rfl (fun q1 => ?_)
  refine ji_putF (w' := [(a, .inr (0, [.ref q1, .int 0, .int 0, .null, .null, .null, .null, .null, .null, .null, .null, .int 0, .int 0, .int 0])), (q1, .inl (ci, 40, .inl fun _ => 0))]) jcl0 0 0 rfl (by decide) fi_X0_9 rfl rfl ⟨rfl, rfl⟩ (Nat.le_of_ble_eq_true rfl) rfl dX0_init_9 rfl ?_
  refine jr_aload_n 0 dX0_init_12 rfl rfl rfl ?_
  refine jr_iconst (v := 0) dX0_init_13 rfl rfl ?_
  refine ji_put (w' := [(a, .inr (0, [.ref q1, .int 0, .int 0, .null, .null, .null, .null, .null, .null, .null, .null, .int 0, .int 0, .int 0])), (q1, .inl (ci, 40, .inl fun _ => 0))]) jcl0 0 1 rfl (by decide) fi_X0_15 rfl ⟨rfl, rfl⟩ (Nat.le_of_ble_eq_true rfl) rfl dX0_init_14 rfl ?_
  refine jr_aload_n 0 dX0_init_17 rfl rfl rfl ?_
  refine jr_iconst (v := 0) dX0_init_18 rfl rfl ?_
  refine ji_put (w' := [(a, .inr (0, [.ref q1, .int 0, .int 0, .null, .null, .null, .null, .null, .null, .null, .null, .int 0, .int 0, .int 0])), (q1, .inl (ci, 40, .inl fun _ => 0))]) jcl0 0 2 rfl (by decide) fi_X0_19 rfl ⟨rfl, rfl⟩ (Nat.le_of_ble_eq_true rfl) rfl dX0_init_19 rfl ?_
  refine jr_aload_n 0 dX0_init_22 rfl rfl rfl ?_
  refine jr_sipush (v := 160) dX0_init_23 rfl rfl ?_
  refine ji_newa (N := 160) (fun q h => Or.inr h) rfl (by decide) (by decide) (by decide) dX0_init_26 rfl (fun q2 => ?_)
  refine ji_putF (w' := [(a, .inr (0, [.ref q1, .int 0, .int 0, .null, .ref q2, .null, .null, .null, .null, .null, .null, .int 0, .int 0, .int 0])), (q1, .inl (ci, 40, .inl fun _ => 0)), (q2, .inl (ci, 160, .inl fun _ => 0))]) jcl0 0 4 rfl (by decide) fi_X0_22 rfl rfl ⟨rfl, rfl⟩ (Nat.le_of_ble_eq_true rfl) rfl dX0_init_28 rfl ?_
  refine jr_aload_n 0 dX0_init_31 rfl rfl rfl ?_
  refine jr_sipush (v := 160) dX0_init_32 rfl rfl ?_
  refine ji_newa (N := 160) (fun q h => Or.inr h) rfl (by decide) (by decide) (by decide) dX0_init_35 rfl (fun q3 => ?_)
  refine ji_putF (w' := [(a, .inr (0, [.ref q1, .int 0, .int 0, .null, .ref q2, .ref q3, .null, .null, .null, .null, .null, .int 0, .int 0, .int 0])), (q1, .inl (ci, 40, .inl fun _ => 0)), (q2, .inl (ci, 160, .inl fun _ => 0)), (q3, .inl (ci, 160, .inl fun _ => 0))]) jcl0 0 5 rfl (by decide) fi_X0_25 rfl rfl ⟨rfl, rfl⟩ (Nat.le_of_ble_eq_true rfl) rfl dX0_init_37 rfl ?_
  refine jr_aload_n 0 dX0_init_40 rfl rfl rfl ?_
  refine jr_sipush (v := 240) dX0_init_41 rfl rfl ?_
  refine ji_newa (N := 240) (fun q h => Or.inr h) rfl (by decide) (by decide) (by decide) dX0_init_44 rfl (fun q4 => ?_)
  refine ji_putF (w' := [(a, .inr (0, [.ref q1, .int 0, .int 0, .null, .ref q2, .ref q3, .ref q4, .null, .null, .null, .null, .int 0, .int 0, .int 0])), (q1, .inl (ci, 40, .inl fun _ => 0)), (q2, .inl (ci, 160, .inl fun _ => 0)), (q3, .inl (ci, 160, .inl fun _ => 0)), (q4, .inl (ci, 240, .inl fun _ => 0))]) jcl0 0 6 rfl (by decide) fi_X0_28 rfl rfl ⟨rfl, rfl⟩ (Nat.le_of_ble_eq_true rfl) rfl dX0_init_46 rfl ?_
  refine jr_aload_n 0 dX0_init_49 rfl rfl rfl ?_
  refine jr_sipush (v := 240) dX0_init_50 rfl rfl ?_
  refine ji_newa (N := 240) (fun q h => Or.inr h) rfl (by decide) (by decide) (by decide) dX0_init_53 rfl (fun q5 => ?_)
  refine ji_putF (w' := [(a, .inr (0, [.ref q1, .int 0, .int 0, .null, .ref q2, .ref q3, .ref q4, .ref q5, .null, .null, .null, .int 0, .int 0, .int 0])), (q1, .inl (ci, 40, .inl fun _ => 0)), (q2, .inl (ci, 160, .inl fun _ => 0)), (q3, .inl (ci, 160, .inl fun _ => 0)), (q4, .inl (ci, 240, .inl fun _ => 0)), (q5, .inl (ci, 240, .inl fun _ => 0))]) jcl0 0 7 rfl (by decide) fi_X0_31 rfl rfl ⟨rfl, rfl⟩ (Nat.le_of_ble_eq_true rfl) rfl dX0_init_55 rfl ?_
  refine jr_aload_n 0 dX0_init_58 rfl rfl rfl ?_
  refine jr_iconst (v := 4) dX0_init_59 rfl rfl ?_
  refine ji_newa (N := 4) (fun q h => Or.inr h) rfl (by decide) (by decide) (by decide) dX0_init_60 rfl (fun q6 => ?_)
  refine ji_putF (w' := [(a, .inr (0, [.ref q1, .int 0, .int 0, .null, .ref q2, .ref q3, .ref q4, .ref q5, .ref q6, .null, .null, .int 0, .int 0, .int 0])), (q1, .inl (ci, 40, .inl fun _ => 0)), (q2, .inl (ci, 160, .inl fun _ => 0)), (q3, .inl (ci, 160, .inl fun _ => 0)), (q4, .inl (ci, 240, .inl fun _ => 0)), (q5, .inl (ci, 240, .inl fun _ => 0)), (q6, .inl (ci, 4, .inl fun _ => 0))]) jcl0 0 8 rfl (by decide) fi_X0_34 rfl rfl ⟨rfl, rfl⟩ (Nat.le_of_ble_eq_true rfl) rfl dX0_init_62 rfl ?_
  refine jr_aload_n 0 dX0_init_65 rfl rfl rfl ?_
  refine jr_iconst (v := 4) dX0_init_66 rfl rfl ?_
  refine ji_newa (N := 4) (fun q h => Or.inr h) rfl (by decide) (by decide) (by decide) dX0_init_67 rfl (fun q7 => ?_)
  refine ji_putF (w' := [(a, .inr (0, [.ref q1, .int 0, .int 0, .null, .ref q2, .ref q3, .ref q4, .ref q5, .ref q6, .ref q7, .null, .int 0, .int 0, .int 0])), (q1, .inl (ci, 40, .inl fun _ => 0)), (q2, .inl (ci, 160, .inl fun _ => 0)), (q3, .inl (ci, 160, .inl fun _ => 0)), (q4, .inl (ci, 240, .inl fun _ => 0)), (q5, .inl (ci, 240, .inl fun _ => 0)), (q6, .inl (ci, 4, .inl fun _ => 0)), (q7, .inl (ci, 4, .inl fun _ => 0))]) jcl0 0 9 rfl (by decide) fi_X0_37 rfl rfl ⟨rfl, rfl⟩ (Nat.le_of_ble_eq_true rfl) rfl dX0_init_69 rfl ?_
  refine jr_aload_n 0 dX0_init_72 rfl rfl rfl ?_
  refine jr_bipush (v := 6) dX0_init_73 rfl rfl ?_
  refine ji_newa (N := 6) (fun q h => Or.inr h) rfl (by decide) (by decide) (by decide) dX0_init_75 rfl (fun q8 => ?_)
  refine ji_putF (w' := [(a, .inr (0, [.ref q1, .int 0, .int 0, .null, .ref q2, .ref q3, .ref q4, .ref q5, .ref q6, .ref q7, .ref q8, .int 0, .int 0, .int 0])), (q1, .inl (ci, 40, .inl fun _ => 0)), (q2, .inl (ci, 160, .inl fun _ => 0)), (q3, .inl (ci, 160, .inl fun _ => 0)), (q4, .inl (ci, 240, .inl fun _ => 0)), (q5, .inl (ci, 240, .inl fun _ => 0)), (q6, .inl (ci, 4, .inl fun _ => 0)), (q7, .inl (ci, 4, .inl fun _ => 0)), (q8, .inl (ci, 6, .inl fun _ => 0))]) jcl0 0 10 rfl (by decide) fi_X0_40 rfl rfl ⟨rfl, rfl⟩ (Nat.le_of_ble_eq_true rfl) rfl dX0_init_77 rfl ?_
  refine jr_aload_n 0 dX0_init_80 rfl rfl rfl ?_
  refine jr_aload_n 1 dX0_init_81 rfl rfl rfl ?_
  refine ji_putF (w' := [(a, .inr (0, [.ref q1, .int 0, .int 0, .ref ld, .ref q2, .ref q3, .ref q4, .ref q5, .ref q6, .ref q7, .ref q8, .int 0, .int 0, .int 0])), (q1, .inl (ci, 40, .inl fun _ => 0)), (q2, .inl (ci, 160, .inl fun _ => 0)), (q3, .inl (ci, 160, .inl fun _ => 0)), (q4, .inl (ci, 240, .inl fun _ => 0)), (q5, .inl (ci, 240, .inl fun _ => 0)), (q6, .inl (ci, 4, .inl fun _ => 0)), (q7, .inl (ci, 4, .inl fun _ => 0)), (q8, .inl (ci, 6, .inl fun _ => 0))]) jcl0 0 3 rfl (by decide) fi_X0_43 rfl rfl ⟨rfl, rfl⟩ (Nat.le_of_ble_eq_true rfl) rfl dX0_init_82 rfl ?_
  refine jr_aload_n 0 dX0_init_85 rfl rfl rfl ?_
  refine jr_iconst (v := 0) dX0_init_86 rfl rfl ?_
  refine ji_put (w' := [(a, .inr (0, [.ref q1, .int 0, .int 0, .ref ld, .ref q2, .ref q3, .ref q4, .ref q5, .ref q6, .ref q7, .ref q8, .int 0, .int 0, .int 0])), (q1, .inl (ci, 40, .inl fun _ => 0)), (q2, .inl (ci, 160, .inl fun _ => 0)), (q3, .inl (ci, 160, .inl fun _ => 0)), (q4, .inl (ci, 240, .inl fun _ => 0)), (q5, .inl (ci, 240, .inl fun _ => 0)), (q6, .inl (ci, 4, .inl fun _ => 0)), (q7, .inl (ci, 4, .inl fun _ => 0)), (q8, .inl (ci, 6, .inl fun _ => 0))]) jcl0 0 11 rfl (by decide) fi_X0_47 rfl ⟨rfl, rfl⟩ (Nat.le_of_ble_eq_true rfl) rfl dX0_init_87 rfl ?_
  refine jr_aload_n 0 dX0_init_90 rfl rfl rfl ?_
  refine jr_iconst (v := 0) dX0_init_91 rfl rfl ?_
  refine ji_put (w' := [(a, .inr (0, [.ref q1, .int 0, .int 0, .ref ld, .ref q2, .ref q3, .ref q4, .ref q5, .ref q6, .ref q7, .ref q8, .int 0, .int 0, .int 0])), (q1, .inl (ci, 40, .inl fun _ => 0)), (q2, .inl (ci, 160, .inl fun _ => 0)), (q3, .inl (ci, 160, .inl fun _ => 0)), (q4, .inl (ci, 240, .inl fun _ => 0)), (q5, .inl (ci, 240, .inl fun _ => 0)), (q6, .inl (ci, 4, .inl fun _ => 0)), (q7, .inl (ci, 4, .inl fun _ => 0)), (q8, .inl (ci, 6, .inl fun _ => 0))]) jcl0 0 12 rfl (by decide) fi_X0_50 rfl ⟨rfl, rfl⟩ (Nat.le_of_ble_eq_true rfl) rfl dX0_init_92 rfl ?_
  refine jr_aload_n 0 dX0_init_95 rfl rfl rfl ?_
  refine jr_iconst (v := 0) dX0_init_96 rfl rfl ?_
  refine ji_put (w' := [(a, .inr (0, [.ref q1, .int 0, .int 0, .ref ld, .ref q2, .ref q3, .ref q4, .ref q5, .ref q6, .ref q7, .ref q8, .int 0, .int 0, .int 0])), (q1, .inl (ci, 40, .inl fun _ => 0)), (q2, .inl (ci, 160, .inl fun _ => 0)), (q3, .inl (ci, 160, .inl fun _ => 0)), (q4, .inl (ci, 240, .inl fun _ => 0)), (q5, .inl (ci, 240, .inl fun _ => 0)), (q6, .inl (ci, 4, .inl fun _ => 0)), (q7, .inl (ci, 4, .inl fun _ => 0)), (q8, .inl (ci, 6, .inl fun _ => 0))]) jcl0 0 13 rfl (by decide) fi_X0_53 rfl ⟨rfl, rfl⟩ (Nat.le_of_ble_eq_true rfl) rfl dX0_init_97 rfl ?_
  exact ji_ret ⟨q1, q2, q3, q4, q5, q6, q7, q8, rfl⟩ dX0_init_100
