theorem oi_X4 : Cond.methodLink RX4 3 Lib.objectInit ∈ lw_g := lw_g_of 116 (by decide +kernel) (by decide +kernel)
theorem fi_X4_9 : Cond.fieldLink RX4 9 (TX4 0).1 (TX4 0).2.1 (TX4 0).2.2.1 ∈ lw_g := lw_g_of 120 (by decide +kernel) (by decide +kernel)
theorem fi_X4_15 : Cond.fieldLink RX4 15 (TX4 1).1 (TX4 1).2.1 (TX4 1).2.2.1 ∈ lw_g := lw_g_of 122 (by decide +kernel) (by decide +kernel)
theorem fi_X4_18 : Cond.fieldLink RX4 18 (TX4 2).1 (TX4 2).2.1 (TX4 2).2.2.1 ∈ lw_g := lw_g_of 123 (by decide +kernel) (by decide +kernel)
theorem cwf_X4 : jwB RX4 21 yJ7_fill_53178 cJ7_fill_53178 4 none 2 := ⟨lw_g_of 117 (by decide +kernel) (by decide +kernel), lw_g_of 119 (by decide +kernel) (by decide +kernel), lw_g_of 54 (by decide +kernel) (by decide +kernel), by decide +kernel⟩
theorem cI_X4 (l : Launch) (D : va_G) (ci : ClassId) (sz a : Nat) : iC l D ci sz [(a, .inr (4, [.null, .null, .null]))] (fun u => ∃ (q1 q2 q3 : Nat) (f : Nat → Int32), u = [(a, .inr (4, [.ref q1, .ref q2, .ref q3])), (q2, .inl (ci, 4, .inl fun _ => 0)), (q3, .inl (ci, 240, .inl fun _ => 0)), (q1, .inl (ci, 4, .inl f))] ∧ ∀ j, j < 4 → f j = (-9)) yX4_init cX4_init 1 { frames := 1, cells := 3, slots := 248, locals := 23 } 3 248 [.ref a] := by
  refine iC.ofJ (by decide) rfl (Nat.le_of_ble_eq_true rfl) rfl ?_
  refine jr_aload_n 0 dX4_init_0 rfl rfl rfl ?_
  refine ji_obj oi_X4 (by decide) (Nat.le_of_ble_eq_true rfl) dX4_init_1 rfl ?_
  refine jr_aload_n 0 dX4_init_4 rfl rfl rfl ?_
  refine jr_iconst (v := 4) dX4_init_5 rfl rfl ?_
  refine ji_newa (N := 4) (fun q h => Or.inr h) rfl (by decide) (by decide) (by decide) dX4_init_6 rfl (fun q1 => ?_)
  refine ji_putF (w' := [(a, .inr (4, [.ref q1, .null, .null])), (q1, .inl (ci, 4, .inl fun _ => 0))]) jcl4 0 0 rfl (by decide) fi_X4_9 rfl rfl ⟨rfl, rfl⟩ (Nat.le_of_ble_eq_true rfl) rfl dX4_init_8 rfl ?_
  refine jr_aload_n 0 dX4_init_11 rfl rfl rfl ?_
  refine jr_iconst (v := 4) dX4_init_12 rfl rfl ?_
  refine ji_newa (N := 4) (fun q h => Or.inr h) rfl (by decide) (by decide) (by decide) dX4_init_13 rfl (fun q2 => ?_)
  refine ji_putF (w' := [(a, .inr (4, [.ref q1, .ref q2, .null])), (q1, .inl (ci, 4, .inl fun _ => 0)), (q2, .inl (ci, 4, .inl fun _ => 0))]) jcl4 0 1 rfl (by decide) fi_X4_15 rfl rfl ⟨rfl, rfl⟩ (Nat.le_of_ble_eq_true rfl) rfl dX4_init_15 rfl ?_
  refine jr_aload_n 0 dX4_init_18 rfl rfl rfl ?_
  refine jr_sipush (v := 240) dX4_init_19 rfl rfl ?_
  refine ji_newa (N := 240) (fun q h => Or.inr h) rfl (by decide) (by decide) (by decide) dX4_init_22 rfl (fun q3 => ?_)
  refine ji_putF (w' := [(a, .inr (4, [.ref q1, .ref q2, .ref q3])), (q1, .inl (ci, 4, .inl fun _ => 0)), (q2, .inl (ci, 4, .inl fun _ => 0)), (q3, .inl (ci, 240, .inl fun _ => 0))]) jcl4 0 2 rfl (by decide) fi_X4_18 rfl rfl ⟨rfl, rfl⟩ (Nat.le_of_ble_eq_true rfl) rfl dX4_init_24 rfl ?_
  refine jr_aload_n 0 dX4_init_27 rfl rfl rfl ?_
  refine ji_get jcl4 0 0 rfl (by decide) fi_X4_9 rfl dX4_init_28 rfl ?_
  refine jr_bipush (v := (-9)) dX4_init_31 rfl rfl ?_
  refine ji_fill (wr := [(a, .inr (4, [.ref q1, .ref q2, .ref q3])), (q2, .inl (ci, 4, .inl fun _ => 0)), (q3, .inl (ci, 240, .inl fun _ => 0))]) (fun q h => Or.inr h) 1 [0, 2, 3] (by decide) rfl rfl (by decide) (by decide) cwf_X4 ⟨rfl, rfl, by decide, by decide⟩ ⟨by decide, by decide⟩ (Nat.le_of_ble_eq_true rfl) dX4_init_33 rfl (fun f hf => ?_)
  exact ji_ret ⟨q1, q2, q3, f, rfl, hf⟩ dX4_init_36
theorem oi_X2 : Cond.methodLink RX2 3 Lib.objectInit ∈ lw_g := lw_g_of 136 (by decide +kernel) (by decide +kernel)
theorem fi_X2_9 : Cond.fieldLink RX2 9 (TX2 0).1 (TX2 0).2.1 (TX2 0).2.2.1 ∈ lw_g := lw_g_of 138 (by decide +kernel) (by decide +kernel)
theorem fi_X2_15 : Cond.fieldLink RX2 15 (TX2 1).1 (TX2 1).2.1 (TX2 1).2.2.1 ∈ lw_g := lw_g_of 141 (by decide +kernel) (by decide +kernel)
theorem fi_X2_18 : Cond.fieldLink RX2 18 (TX2 2).1 (TX2 2).2.1 (TX2 2).2.2.1 ∈ lw_g := lw_g_of 144 (by decide +kernel) (by decide +kernel)
theorem fi_X2_21 : Cond.fieldLink RX2 21 (TX2 3).1 (TX2 3).2.1 (TX2 3).2.2.1 ∈ lw_g := lw_g_of 146 (by decide +kernel) (by decide +kernel)
theorem fi_X2_25 : Cond.fieldLink RX2 25 (TX2 4).1 (TX2 4).2.1 (TX2 4).2.2.1 ∈ lw_g := lw_g_of 149 (by decide +kernel) (by decide +kernel)
theorem fi_X2_28 : Cond.fieldLink RX2 28 (TX2 5).1 (TX2 5).2.1 (TX2 5).2.2.1 ∈ lw_g := lw_g_of 150 (by decide +kernel) (by decide +kernel)
theorem fi_X2_31 : Cond.fieldLink RX2 31 (TX2 6).1 (TX2 6).2.1 (TX2 6).2.2.1 ∈ lw_g := lw_g_of 151 (by decide +kernel) (by decide +kernel)
theorem cwf_X2 : jwB RX2 34 yJ7_fill_53178 cJ7_fill_53178 4 none 2 := ⟨lw_g_of 137 (by decide +kernel) (by decide +kernel), lw_g_of 119 (by decide +kernel) (by decide +kernel), lw_g_of 54 (by decide +kernel) (by decide +kernel), by decide +kernel⟩
theorem cI_X2 (l : Launch) (D : va_G) (ci : ClassId) (sz a : Nat) : iC l D ci sz [(a, .inr (2, [.int 0, .int 0, .int 0, .null, .null, .null, .null]))] (fun u => ∃ (q1 q2 q3 q4 : Nat) (f : Nat → Int32), u = [(a, .inr (2, [.int 0, .int 0, .int 0, .ref q1, .ref q2, .ref q3, .ref q4])), (q2, .inl (ci, 7, .inl fun _ => 0)), (q3, .inl (ci, 7, .inl fun _ => 0)), (q4, .inl (ci, 7, .inl fun _ => 0)), (q1, .inl (ci, 4, .inl f))] ∧ ∀ j, j < 4 → f j = 40) yX2_init cX2_init 1 { frames := 1, cells := 4, slots := 25, locals := 23 } 4 25 [.ref a] := by
  refine iC.ofJ (by decide) rfl (Nat.le_of_ble_eq_true rfl) rfl ?_
  refine jr_aload_n 0 dX2_init_0 rfl rfl rfl ?_
  refine ji_obj oi_X2 (by decide) (Nat.le_of_ble_eq_true rfl) dX2_init_1 rfl ?_
  refine jr_aload_n 0 dX2_init_4 rfl rfl rfl ?_
  refine jr_iconst (v := 0) dX2_init_5 rfl rfl ?_
  refine ji_put (w' := [(a, .inr (2, [.int 0, .int 0, .int 0, .null, .null, .null, .null]))]) jcl2 0 0 rfl (by decide) fi_X2_9 rfl ⟨rfl, rfl⟩ (Nat.le_of_ble_eq_true rfl) rfl dX2_init_6 rfl ?_
  refine jr_aload_n 0 dX2_init_9 rfl rfl rfl ?_
  refine jr_iconst (v := 0) dX2_init_10 rfl rfl ?_
  refine ji_put (w' := [(a, .inr (2, [.int 0, .int 0, .int 0, .null, .null, .null, .null]))]) jcl2 0 1 rfl (by decide) fi_X2_15 rfl ⟨rfl, rfl⟩ (Nat.le_of_ble_eq_true rfl) rfl dX2_init_11 rfl ?_
  refine jr_aload_n 0 dX2_init_14 rfl rfl rfl ?_
  refine jr_iconst (v := 0) dX2_init_15 rfl rfl ?_
  refine ji_put (w' := [(a, .inr (2, [.int 0, .int 0, .int 0, .null, .null, .null, .null]))]) jcl2 0 2 rfl (by decide) fi_X2_18 rfl ⟨rfl, rfl⟩ (Nat.le_of_ble_eq_true rfl) rfl dX2_init_16 rfl ?_
  refine jr_aload_n 0 dX2_init_19 rfl rfl rfl ?_
  refine jr_iconst (v := 4) dX2_init_20 rfl rfl ?_
  refine ji_newa (N := 4) (fun q h => Or.inr h) rfl (by decide) (by decide) (by decide) dX2_init_21 rfl (fun q1 => ?_)
  refine ji_putF (w' := [(a, .inr (2, [.int 0, .int 0, .int 0, .ref q1, .null, .null, .null])), (q1, .inl (ci, 4, .inl fun _ => 0))]) jcl2 0 3 rfl (by decide) fi_X2_21 rfl rfl ⟨rfl, rfl⟩ (Nat.le_of_ble_eq_true rfl) rfl dX2_init_23 rfl ?_
  refine jr_aload_n 0 dX2_init_26 rfl rfl rfl ?_
  refine jr_bipush (v := 7) dX2_init_27 rfl rfl ?_
  refine ji_newa (N := 7) (fun q h => Or.inr h) rfl (by decide) (by decide) (by decide) dX2_init_29 rfl (fun q2 => ?_)
  refine ji_putF (w' := [(a, .inr (2, [.int 0, .int 0, .int 0, .ref q1, .ref q2, .null, .null])), (q1, .inl (ci, 4, .inl fun _ => 0)), (q2, .inl (ci, 7, .inl fun _ => 0))]) jcl2 0 4 rfl (by decide) fi_X2_25 rfl rfl ⟨rfl, rfl⟩ (Nat.le_of_ble_eq_true rfl) rfl dX2_init_31 rfl ?_
  refine jr_aload_n 0 dX2_init_34 rfl rfl rfl ?_
  refine jr_bipush (v := 7) dX2_init_35 rfl rfl ?_
  refine ji_newa (N := 7) (fun q h => Or.inr h) rfl (by decide) (by decide) (by decide) dX2_init_37 rfl (fun q3 => ?_)
  refine ji_putF (w' := [(a, .inr (2, [.int 0, .int 0, .int 0, .ref q1, .ref q2, .ref q3, .null])), (q1, .inl (ci, 4, .inl fun _ => 0)), (q2, .inl (ci, 7, .inl fun _ => 0)), (q3, .inl (ci, 7, .inl fun _ => 0))]) jcl2 0 5 rfl (by decide) fi_X2_28 rfl rfl ⟨rfl, rfl⟩ (Nat.le_of_ble_eq_true rfl) rfl dX2_init_39 rfl ?_
  refine jr_aload_n 0 dX2_init_42 rfl rfl rfl ?_
  refine jr_bipush (v := 7) dX2_init_43 rfl rfl ?_
  refine ji_newa (N := 7) (fun q h => Or.inr h) rfl (by decide) (by decide) (by decide) dX2_init_45 rfl (fun q4 => ?_)
  refine ji_putF (w' := [(a, .inr (2, [.int 0, .int 0, .int 0, .ref q1, .ref q2, .ref q3, .ref q4])), (q1, .inl (ci, 4, .inl fun _ => 0)), (q2, .inl (ci, 7, .inl fun _ => 0)), (q3, .inl (ci, 7, .inl fun _ => 0)), (q4, .inl (ci, 7, .inl fun _ => 0))]) jcl2 0 6 rfl (by decide) fi_X2_31 rfl rfl ⟨rfl, rfl⟩ (Nat.le_of_ble_eq_true rfl) rfl dX2_init_47 rfl ?_
  refine jr_aload_n 0 dX2_init_50 rfl rfl rfl ?_
  refine ji_get jcl2 0 3 rfl (by decide) fi_X2_21 rfl dX2_init_51 rfl ?_
  refine jr_bipush (v := 40) dX2_init_54 rfl rfl ?_
  refine ji_fill (wr := [(a, .inr (2, [.int 0, .int 0, .int 0, .ref q1, .ref q2, .ref q3, .ref q4])), (q2, .inl (ci, 7, .inl fun _ => 0)), (q3, .inl (ci, 7, .inl fun _ => 0)), (q4, .inl (ci, 7, .inl fun _ => 0))]) (fun q h => Or.inr h) 1 [0, 2, 3, 4] (by decide) rfl rfl (by decide) (by decide) cwf_X2 ⟨rfl, rfl, by decide, by decide⟩ ⟨by decide, by decide⟩ (Nat.le_of_ble_eq_true rfl) dX2_init_56 rfl (fun f hf => ?_)
  exact ji_ret ⟨q1, q2, q3, q4, f, rfl, hf⟩ dX2_init_59
