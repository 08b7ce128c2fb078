theorem law_sw {l : Launch} {D : va_G} {ci : ClassId} {ad : Nat → Nat → Nat} {t b Ln : Nat} {xs : Nat → Int32} (hL : Ln < 2 ^ 31) {i : Nat} (hi : i + 6 ≤ Ln) (x : Int32) {c0 m0 : jx_M} (h : Inv c0 m0) (K : ∀ c1 m1, Inv c1 m1 → LG l D ci ad t b Ln xs 1261 [(3, .int (nI i)), (2, .ref (ad 8 0)), (1, .ref (ad 0 0)), (0, .ref b)] [] (c1, m1)) : LG l D ci ad t b Ln xs 33 [(3, .int (nI i)), (2, .ref (ad 8 0)), (1, .ref (ad 0 0)), (0, .ref b)] [.int x] (c0, m0) := by
  by_cases h0 : x = nI 0
  · exact jr_tabIn (off := 155) 188 dL_law_33 h0 (by decide +kernel) rfl (lc_0 hL hi h K)
  by_cases h1 : x = nI 1
  · exact jr_tabIn (off := 208) 241 dL_law_33 h1 (by decide +kernel) rfl (lc_1 hL hi h K)
  by_cases h2 : x = nI 2
  · exact jr_tabIn (off := 241) 274 dL_law_33 h2 (by decide +kernel) rfl (lc_2 hL hi h K)
  by_cases h3 : x = nI 3
  · exact jr_tabIn (off := 264) 297 dL_law_33 h3 (by decide +kernel) rfl (lc_3 hL hi h K)
  by_cases h4 : x = nI 4
  · exact jr_tabIn (off := 313) 346 dL_law_33 h4 (by decide +kernel) rfl (lc_4 hL hi h K)
  by_cases h5 : x = nI 5
  · exact jr_tabIn (off := 356) 389 dL_law_33 h5 (by decide +kernel) rfl (lc_5 hL hi h K)
  by_cases h6 : x = nI 6
  · exact jr_tabIn (off := 379) 412 dL_law_33 h6 (by decide +kernel) rfl (lc_6 hL hi h K)
  by_cases h7 : x = nI 7
  · exact jr_tabIn (off := 412) 445 dL_law_33 h7 (by decide +kernel) rfl (lc_7 hL hi h K)
  by_cases h8 : x = nI 8
  · exact jr_tabIn (off := 445) 478 dL_law_33 h8 (by decide +kernel) rfl (lc_8 hL hi h K)
  by_cases h9 : x = nI 9
  · exact jr_tabIn (off := 478) 511 dL_law_33 h9 (by decide +kernel) rfl (lc_9 hL hi h K)
  by_cases h10 : x = nI 10
  · exact jr_tabIn (off := 511) 544 dL_law_33 h10 (by decide +kernel) rfl (lc_10 hL hi h K)
  by_cases h11 : x = nI 11
  · exact jr_tabIn (off := 534) 567 dL_law_33 h11 (by decide +kernel) rfl (lc_11 hL hi h K)
  by_cases h12 : x = nI 12
  · exact jr_tabIn (off := 557) 590 dL_law_33 h12 (by decide +kernel) rfl (lc_12 hL hi h K)
  by_cases h13 : x = nI 13
  · exact jr_tabIn (off := 580) 613 dL_law_33 h13 (by decide +kernel) rfl (lc_13 hL hi h K)
  by_cases h14 : x = nI 14
  · exact jr_tabIn (off := 613) 646 dL_law_33 h14 (by decide +kernel) rfl (lc_14 hL hi h K)
  by_cases h15 : x = nI 15
  · exact jr_tabIn (off := 636) 669 dL_law_33 h15 (by decide +kernel) rfl (lc_15 hL hi h K)
  by_cases h16 : x = nI 16
  · exact jr_tabIn (off := 659) 692 dL_law_33 h16 (by decide +kernel) rfl (lc_16 hL hi h K)
  by_cases h17 : x = nI 17
  · exact jr_tabIn (off := 712) 745 dL_law_33 h17 (by decide +kernel) rfl (lc_17 hL hi h K)
  by_cases h18 : x = nI 18
  · exact jr_tabIn (off := 755) 788 dL_law_33 h18 (by decide +kernel) rfl (lc_18 hL hi h K)
  by_cases h19 : x = nI 19
  · exact jr_tabIn (off := 778) 811 dL_law_33 h19 (by decide +kernel) rfl (lc_19 hL hi h K)
  by_cases h20 : x = nI 20
  · exact jr_tabIn (off := 791) 824 dL_law_33 h20 (by decide +kernel) rfl (lc_20 hL hi h K)
  by_cases h21 : x = nI 21
  · exact jr_tabIn (off := 804) 837 dL_law_33 h21 (by decide +kernel) rfl (lc_21 hL hi h K)
  by_cases h22 : x = nI 22
  · exact jr_tabIn (off := 837) 870 dL_law_33 h22 (by decide +kernel) rfl (lc_22 hL hi h K)
  by_cases h23 : x = nI 23
  · exact jr_tabIn (off := 850) 883 dL_law_33 h23 (by decide +kernel) rfl (lc_23 hL hi h K)
  by_cases h24 : x = nI 24
  · exact jr_tabIn (off := 884) 917 dL_law_33 h24 (by decide +kernel) rfl (lc_24 hL hi h K)
  by_cases h25 : x = nI 25
  · exact jr_tabIn (off := 927) 960 dL_law_33 h25 (by decide +kernel) rfl (lc_25 hL hi h K)
  by_cases h26 : x = nI 26
  · exact jr_tabIn (off := 950) 983 dL_law_33 h26 (by decide +kernel) rfl (lc_26 hL hi h K)
  by_cases h27 : x = nI 27
  · exact jr_tabIn (off := 993) 1026 dL_law_33 h27 (by decide +kernel) rfl (lc_27 hL hi h K)
  by_cases h28 : x = nI 28
  · exact jr_tabIn (off := 1037) 1070 dL_law_33 h28 (by decide +kernel) rfl (lc_28 hL hi h K)
  by_cases h29 : x = nI 29
  · exact jr_tabIn (off := 1100) 1133 dL_law_33 h29 (by decide +kernel) rfl (lc_29 hL hi h K)
  by_cases h30 : x = nI 30
  · exact jr_tabIn (off := 1123) 1156 dL_law_33 h30 (by decide +kernel) rfl (lc_30 hL hi h K)
  by_cases h31 : x = nI 31
  · exact jr_tabIn (off := 1146) 1179 dL_law_33 h31 (by decide +kernel) rfl (lc_31 hL hi h K)
  by_cases h32 : x = nI 32
  · exact jr_tabIn (off := 1179) 1212 dL_law_33 h32 (by decide +kernel) rfl (lc_32 hL hi h K)
  by_cases h33 : x = nI 33
  · exact jr_tabIn (off := 1192) 1225 dL_law_33 h33 (by decide +kernel) rfl (lc_33 hL hi h K)
  by_cases h34 : x = nI 34
  · exact jr_tabIn (off := 1205) 1238 dL_law_33 h34 (by decide +kernel) rfl (lc_34 hL hi h K)
  refine jr_tabOut 34 1261 dL_law_33 (by decide) (fun j hj z => ?_) rfl (K c0 m0 h)
  have hj2 : j = 0 ∨ j = 1 ∨ j = 2 ∨ j = 3 ∨ j = 4 ∨ j = 5 ∨ j = 6 ∨ j = 7 ∨ j = 8 ∨ j = 9 ∨ j = 10 ∨ j = 11 ∨ j = 12 ∨ j = 13 ∨ j = 14 ∨ j = 15 ∨ j = 16 ∨ j = 17 ∨ j = 18 ∨ j = 19 ∨ j = 20 ∨ j = 21 ∨ j = 22 ∨ j = 23 ∨ j = 24 ∨ j = 25 ∨ j = 26 ∨ j = 27 ∨ j = 28 ∨ j = 29 ∨ j = 30 ∨ j = 31 ∨ j = 32 ∨ j = 33 ∨ j = 34 := by omega
  rcases hj2 with e | e | e | e | e | e | e | e | e | e | e | e | e | e | e | e | e | e | e | e | e | e | e | e | e | e | e | e | e | e | e | e | e | e | e <;> subst e
  · exact h0 z
  · exact h1 z
  · exact h2 z
  · exact h3 z
  · exact h4 z
  · exact h5 z
  · exact h6 z
  · exact h7 z
  · exact h8 z
  · exact h9 z
  · exact h10 z
  · exact h11 z
  · exact h12 z
  · exact h13 z
  · exact h14 z
  · exact h15 z
  · exact h16 z
  · exact h17 z
  · exact h18 z
  · exact h19 z
  · exact h20 z
  · exact h21 z
  · exact h22 z
  · exact h23 z
  · exact h24 z
  · exact h25 z
  · exact h26 z
  · exact h27 z
  · exact h28 z
  · exact h29 z
  · exact h30 z
  · exact h31 z
  · exact h32 z
  · exact h33 z
  · exact h34 z
theorem law_loop {l : Launch} {D : va_G} {ci : ClassId} {ad : Nat → Nat → Nat} {t b Ln : Nat} {xs : Nat → Int32} (hL : Ln ≤ 384) : ∀ q i c0 m0, Ln ≤ i + q → i ≤ 400 → Inv c0 m0 → LG l D ci ad t b Ln xs 18 [(3, .int (nI i)), (2, .ref (ad 8 0)), (1, .ref (ad 0 0)), (0, .ref b)] [] (c0, m0) := by
  intro q
  induction q with
  | zero =>
    intro i c0 m0 hq hi h
    refine jr_iload_n 0 dL_law_18 rfl rfl rfl ?_
    refine jr_aload_n 3 dL_law_19 rfl rfl rfl ?_
    refine jl_len dL_law_20 rfl ?_
    refine jr_bipush (v := 6) dL_law_21 rfl rfl ?_
    refine jr_isub dL_law_23 rfl ?_
    refine jr_icmp_gt 1267 dL_law_24 rfl rfl (fun _ => ?_) (fun z => absurd (jl_out (by omega) (by omega) (by omega)) z)
    refine jr_iconst (v := 1) dL_law_1267 rfl rfl ?_
    exact jl_ret dL_law_1268
  | succ q ih =>
    intro i c0 m0 hq hi h
    refine jr_iload_n 0 dL_law_18 rfl rfl rfl ?_
    refine jr_aload_n 3 dL_law_19 rfl rfl rfl ?_
    refine jl_len dL_law_20 rfl ?_
    refine jr_bipush (v := 6) dL_law_21 rfl rfl ?_
    refine jr_isub dL_law_23 rfl ?_
    by_cases h6 : i + 6 ≤ Ln
    · refine jr_icmp_gt 1267 dL_law_24 rfl rfl (fun z => absurd z (jl_in h6 (by omega))) (fun _ => ?_)
      refine jr_aload_n 3 dL_law_27 rfl rfl rfl ?_
      refine jr_iload_n 0 dL_law_28 rfl rfl rfl ?_
      refine jl_rd (q := i) rfl (by omega) (by omega) dL_law_29 rfl ?_
      refine jr_bipush (v := 63) dL_law_30 rfl rfl ?_
      refine jr_iand dL_law_32 rfl ?_
      refine law_sw (by omega) h6 _ h (fun c1 m1 h1 => ?_)
      refine jr_iinc (v := nI (i + 6)) 0 dL_law_1261 rfl (nI_add i 6) (by decide) rfl rfl ?_
      refine jr_goto 18 dL_law_1264 rfl ?_
      exact ih (i + 6) c1 m1 (by omega) (by omega) h1
    · refine jr_icmp_gt 1267 dL_law_24 rfl rfl (fun _ => ?_) (fun z => absurd (jl_out (by omega) (by omega) (by omega)) z)
      refine jr_iconst (v := 1) dL_law_1267 rfl rfl ?_
      exact jl_ret dL_law_1268
