def F_X0_guardAt (o : Nat) (a1 : Int32) (a2 : Int32) (M : jx_M) : Option (Int32 × jx_M) :=
  jck (jin ((a2 * 4) + a1) 160) (some (jx_r M o 4 ((a2 * 4) + a1), M))
def F_X0_stateAt (o : Nat) (a1 : Int32) (a2 : Int32) (M : jx_M) : Option (Int32 × jx_M) :=
  jck (jin ((a2 * 6) + a1) 240) (some (jx_r M o 6 ((a2 * 6) + a1), M))
def F_X0_agedAt (o : Nat) (a1 : Int32) (a2 : Int32) (M : jx_M) : Option (Int32 × jx_M) :=
  jck (jin ((a2 * 6) + a1) 240) (some (jx_r M o 7 ((a2 * 6) + a1), M))
def F_J6_bitCount_0f7a4 (a0 : Int32) (M : jx_M) : Option (Int32 × jx_M) :=
  jlet (a0 - (((a0.toUInt32 >>> ((1 : Int32).toUInt32 &&& Int32.toUInt32 31)).toInt32) &&& 1431655765)) (fun x0_1 => jlet ((x0_1 &&& 858993459) + (((x0_1.toUInt32 >>> ((2 : Int32).toUInt32 &&& Int32.toUInt32 31)).toInt32) &&& 858993459)) (fun x0_2 => jlet ((x0_2 + ((x0_2.toUInt32 >>> ((4 : Int32).toUInt32 &&& Int32.toUInt32 31)).toInt32)) &&& 252645135) (fun x0_3 => jlet (x0_3 + ((x0_3.toUInt32 >>> ((8 : Int32).toUInt32 &&& Int32.toUInt32 31)).toInt32)) (fun x0_4 => jlet (x0_4 + ((x0_4.toUInt32 >>> ((16 : Int32).toUInt32 &&& Int32.toUInt32 31)).toInt32)) (fun x0_5 => some (x0_5 &&& 63, M))))))
def L_X0_missedBy_4 (o : Nat) (y1 : Int32) (k : Int32 → jx_M → Option (Int32 × jx_M)) : Nat → Int32 → Int32 → jx_M → Option (Int32 × jx_M)
  | 0, _, _, _ => none
  | n + 1, z2, z3, M => if y1 < z3 then k z2 M else jck (jin z3 40) (jbd (F_J6_bitCount_0f7a4 (jx_r M o 0 z3) M) (fun r_1 M_1 => jlet (z2 + r_1) (fun x2_1 => jlet (z3 + 1) (fun x3_1 => L_X0_missedBy_4 o y1 k n x2_1 x3_1 M_1))))
def F_X0_missedBy (o : Nat) (a1 : Int32) (M : jx_M) : Option (Int32 × jx_M) :=
  L_X0_missedBy_4 o a1 (fun x2_2 M_2 => some (x2_2, M_2)) jfu 0 0 M
def F_X0_wouldTurn (o : Nat) (a1 : Int32) (a2 : Int32) (a3 : Int32) (M : jx_M) : Option (Int32 × jx_M) :=
  jlet ((a3 * 4) + a1) (fun x4_1 => jck (jin x4_1 160) (if (((jx_r M o 5 x4_1) >>> (a2 &&& 31)) &&& 1) = 0 then some (0, M) else jck (jin x4_1 160) (if (jx_r M o 4 x4_1) = a2 then some (0, M) else some (1, M))))
def L_J7_fill_53178_5 (o : Nat) (q : Nat) (N : Nat) (y1 : Int32) (y3 : Int32) (k : jx_M → Option (Unit × jx_M)) : Nat → Int32 → jx_M → Option (Unit × jx_M)
  | 0, _, _ => none
  | n + 1, z2, M => if y3 ≤ z2 then k M else jck (jin z2 N) (jlet (jx_w M o q z2 y1) (fun M_1 => jlet (z2 + 1) (fun x2_1 => L_J7_fill_53178_5 o q N y1 y3 k n x2_1 M_1)))
def F_J7_fill_53178 (o q N : Nat) (a1 : Int32) (M : jx_M) : Option (Unit × jx_M) :=
  jlet (nI N) (fun x3_1 => L_J7_fill_53178_5 o q N a1 x3_1 (fun M_2 => some ((), M_2)) jfu 0 M)
def L_X0_wakeAndBear_5 (o : Nat) (y1 : Int32) (y2 : Int32) (k : Int32 → jx_M → Option (Unit × jx_M)) : Nat → Int32 → Int32 → jx_M → Option (Unit × jx_M)
  | 0, _, _, _ => none
  | n + 1, z3, z4, M => if (M 2 0 0) ≤ z4 then k z3 M else jck (jin z4 4) (if (jx_r M o 8 z4) = (-9) then jlet (z4 + 1) (fun x4_1 => L_X0_wakeAndBear_5 o y1 y2 k n z3 x4_1 M) else jck (jin z4 4) (if y1 < (jx_r M o 9 z4) then jlet (z4 + 1) (fun x4_2 => L_X0_wakeAndBear_5 o y1 y2 k n z3 x4_2 M) else jck (jin z4 4) (jlet (z3 ||| (1 <<< ((jx_r M o 8 z4) &&& 31))) (fun x3_1 => jck (jin z4 4) (jlet (jx_w M o 8 z4 (-9)) (fun M_1 => jlet (z4 + 1) (fun x4_3 => L_X0_wakeAndBear_5 o y1 y2 k n x3_1 x4_3 M_1)))))))
def L_X0_wakeAndBear_70 (o : Nat) (y1 : Int32) (y2 : Int32) (y3 : Int32) (k : jx_M → Option (Unit × jx_M)) : Nat → Int32 → jx_M → Option (Unit × jx_M)
  | 0, _, _ => none
  | n + 1, z4, M => if (M 2 1 0) ≤ z4 then k M else jck (jin z4 6) (if (jx_r M 2 4 z4) = y1 then jlet (jx_p M o 11 ((M o 11 0) ||| (1 <<< (z4 &&& 31)))) (fun M_3 => jlet (z4 + 1) (fun x4_5 => L_X0_wakeAndBear_70 o y1 y2 y3 k n x4_5 M_3)) else jlet (z4 + 1) (fun x4_4 => L_X0_wakeAndBear_70 o y1 y2 y3 k n x4_4 M))
def F_X0_wakeAndBear (o : Nat) (a1 : Int32) (a2 : Int32) (M : jx_M) : Option (Unit × jx_M) :=
  L_X0_wakeAndBear_5 o a1 a2 (fun x3_2 M_2 => L_X0_wakeAndBear_70 o a1 a2 x3_2 (fun M_4 => jlet (jx_p M_4 o 13 ((M_4 o 11 0) &&& (a2 ^^^ (-1)))) (fun M_5 => jlet (jx_p M_5 o 11 ((M_5 o 11 0) ||| x3_2)) (fun M_6 => jlet (jx_p M_6 o 12 ((M_6 o 12 0) &&& (x3_2 ^^^ (-1)))) (fun M_7 => some ((), M_7))))) jfu 0 M_2) jfu 0 0 M
def L_X2_willedOf_3 (o : Nat) (y1 : Int32) (y2 : Int32) (y3 : Int32) (k : jx_M → Option (Int32 × jx_M)) : Nat → Int32 → jx_M → Option (Int32 × jx_M)
  | 0, _, _ => none
  | n + 1, z4, M => if (M o 2 0) ≤ z4 then k M else jck (jin z4 7) (if (jx_r M o 4 z4) = y2 then jck (jin z4 7) (if (jx_r M o 6 z4) = y3 then jck (jin z4 7) (if ((y1 >>> ((jx_r M o 5 z4) &&& 31)) &&& 1) = 0 then jlet (z4 + 1) (fun x4_3 => L_X2_willedOf_3 o y1 y2 y3 k n x4_3 M) else jck (jin z4 7) (some (jx_r M o 5 z4, M))) else jlet (z4 + 1) (fun x4_2 => L_X2_willedOf_3 o y1 y2 y3 k n x4_2 M)) else jlet (z4 + 1) (fun x4_1 => L_X2_willedOf_3 o y1 y2 y3 k n x4_1 M))
def F_X2_willedOf (o : Nat) (a1 : Int32) (a2 : Int32) (a3 : Int32) (M : jx_M) : Option (Int32 × jx_M) :=
  L_X2_willedOf_3 o a1 a2 a3 (fun M_1 => some ((-9), M_1)) jfu 0 M
def L_X0_lawfulOf_9 (o : Nat) (y1 : Int32) (y2 : Int32) (k : Int32 → jx_M → Option (Int32 × jx_M)) : Nat → Int32 → Int32 → Int32 → jx_M → Option (Int32 × jx_M)
  | 0, _, _, _, _ => none
  | n + 1, z3, z4, z5, M => if (M 2 1 0) ≤ z5 then k z3 M else if (((M o 13 0) >>> (z5 &&& 31)) &&& 1) = 0 then jlet (z5 + 1) (fun x5_13 => L_X0_lawfulOf_9 o y1 y2 k n z3 z4 x5_13 M) else if y1 = 1 then jck (jin z5 6) (jlet (jx_r M o 10 z5) (fun x6_2 => if y1 = 2 then jck (jin z5 6) (jlet (-(jabs ((jx_r M 2 3 z5) - y2))) (fun x6_3 => if z3 = (-9) then jlet (z5 + 1) (fun x5_10 => L_X0_lawfulOf_9 o y1 y2 k n z5 x6_3 x5_10 M) else if x6_3 ≤ z4 then jlet (z5 + 1) (fun x5_11 => L_X0_lawfulOf_9 o y1 y2 k n z3 z4 x5_11 M) else jlet (z5 + 1) (fun x5_12 => L_X0_lawfulOf_9 o y1 y2 k n z5 x6_3 x5_12 M))) else if z3 = (-9) then jlet (z5 + 1) (fun x5_7 => L_X0_lawfulOf_9 o y1 y2 k n z5 x6_2 x5_7 M) else if x6_2 ≤ z4 then jlet (z5 + 1) (fun x5_8 => L_X0_lawfulOf_9 o y1 y2 k n z3 z4 x5_8 M) else jlet (z5 + 1) (fun x5_9 => L_X0_lawfulOf_9 o y1 y2 k n z5 x6_2 x5_9 M))) else if y1 = 2 then jck (jin z5 6) (jlet (-(jabs ((jx_r M 2 3 z5) - y2))) (fun x6_1 => if z3 = (-9) then jlet (z5 + 1) (fun x5_4 => L_X0_lawfulOf_9 o y1 y2 k n z5 x6_1 x5_4 M) else if x6_1 ≤ z4 then jlet (z5 + 1) (fun x5_5 => L_X0_lawfulOf_9 o y1 y2 k n z3 z4 x5_5 M) else jlet (z5 + 1) (fun x5_6 => L_X0_lawfulOf_9 o y1 y2 k n z5 x6_1 x5_6 M))) else if z3 = (-9) then jlet (z5 + 1) (fun x5_1 => L_X0_lawfulOf_9 o y1 y2 k n z5 0 x5_1 M) else if 0 ≤ z4 then jlet (z5 + 1) (fun x5_2 => L_X0_lawfulOf_9 o y1 y2 k n z3 z4 x5_2 M) else jlet (z5 + 1) (fun x5_3 => L_X0_lawfulOf_9 o y1 y2 k n z5 0 x5_3 M)
def F_X0_lawfulOf (o : Nat) (a1 : Int32) (a2 : Int32) (M : jx_M) : Option (Int32 × jx_M) :=
  L_X0_lawfulOf_9 o a1 a2 (fun x3_1 M_1 => some (x3_1, M_1)) jfu (-9) 0 0 M
def F_X0_chosenOf (o : Nat) (a1 : Int32) (a2 : Int32) (o1 : Nat) (M : jx_M) : Option (Int32 × jx_M) :=
  jbd (F_X2_willedOf o1 (M o 13 0) a2 a1 M) (fun r_1 M_1 => if r_1 = (-9) then jck (jin ((a1 * 4) + a2) 160) (jlet (jx_w M_1 o 5 ((a1 * 4) + a2) (M_1 o 13 0)) (fun M_2 => jbd (F_X0_lawfulOf o (M_2 o1 0 0) a2 M_2) (fun r_2 M_3 => some (r_2, M_3)))) else some (r_1, M_1))
def F_X1_sleepOf (a1 : Int32) (M : jx_M) : Option (Int32 × jx_M) :=
  jck (jin a1 6) (jlet (jx_r M 2 2 a1) (fun sw_1 => if sw_1 = 1 then jck (jin a1 6) (some ((jx_r M 2 6 a1) + 2, M)) else if sw_1 = 2 then jck (jin a1 6) (some (2 * ((jx_r M 2 6 a1) + 2), M)) else jck (jin a1 6) (some (jx_r M 2 6 a1, M))))
def F_X0_layDown (o : Nat) (a1 : Int32) (a2 : Int32) (a3 : Int32) (M : jx_M) : Option (Unit × jx_M) :=
  jck (jin a2 4) (jlet (jx_w M o 8 a2 a3) (fun M_1 => jbd (F_X1_sleepOf a3 M_1) (fun r_1 M_2 => jck (jin a2 4) (jlet (jx_w M_2 o 9 a2 (a1 + r_1)) (fun M_3 => jlet (1 <<< (a3 &&& 31)) (fun x4_1 => jlet (jx_p M_3 o 13 ((M_3 o 13 0) &&& (x4_1 ^^^ (-1)))) (fun M_4 => jlet (jx_p M_4 o 11 ((M_4 o 11 0) &&& (x4_1 ^^^ (-1)))) (fun M_5 => jlet (jx_p M_5 o 12 ((M_5 o 12 0) ||| x4_1)) (fun M_6 => some ((), M_6))))))))))
def L_X0_fillPosts_9 (o : Nat) (o1 : Nat) (y1 : Int32) (k : jx_M → Option (Unit × jx_M)) : Nat → Int32 → jx_M → Option (Unit × jx_M)
  | 0, _, _ => none
  | n + 1, z3, M => if (M 2 0 0) ≤ z3 then k M else jck (jin ((y1 * 4) + z3) 160) (jlet (jx_w M o 5 ((y1 * 4) + z3) 0) (fun M_2 => jck (jin z3 4) (if (jx_r M_2 o 8 z3) = (-9) then jck (jin z3 4) (if (jx_r M_2 o1 3 z3) ≤ y1 then jck (jin z3 4) (jck (jin ((y1 * 4) + z3) 160) (jlet (jx_w M_2 o 4 ((y1 * 4) + z3) (jx_r M_2 o 8 z3)) (fun M_4 => jlet (z3 + 1) (fun x3_2 => L_X0_fillPosts_9 o o1 y1 k n x3_2 M_4)))) else jbd (F_X0_chosenOf o y1 z3 o1 M_2) (fun r_1 M_5 => if r_1 = (-9) then jck (jin y1 40) (jck (jin y1 40) (jlet (jx_w M_5 o 0 y1 ((jx_r M_5 o 0 y1) ||| (1 <<< (z3 &&& 31)))) (fun M_8 => jck (jin z3 4) (jck (jin ((y1 * 4) + z3) 160) (jlet (jx_w M_8 o 4 ((y1 * 4) + z3) (jx_r M_8 o 8 z3)) (fun M_9 => jlet (z3 + 1) (fun x3_4 => L_X0_fillPosts_9 o o1 y1 k n x3_4 M_9))))))) else jbd (F_X0_layDown o y1 z3 r_1 M_5) (fun r_2 M_6 => jck (jin z3 4) (jck (jin ((y1 * 4) + z3) 160) (jlet (jx_w M_6 o 4 ((y1 * 4) + z3) (jx_r M_6 o 8 z3)) (fun M_7 => jlet (z3 + 1) (fun x3_3 => L_X0_fillPosts_9 o o1 y1 k n x3_3 M_7))))))) else jck (jin z3 4) (jck (jin ((y1 * 4) + z3) 160) (jlet (jx_w M_2 o 4 ((y1 * 4) + z3) (jx_r M_2 o 8 z3)) (fun M_3 => jlet (z3 + 1) (fun x3_1 => L_X0_fillPosts_9 o o1 y1 k n x3_1 M_3)))))))
def F_X0_fillPosts (o : Nat) (a1 : Int32) (o1 : Nat) (M : jx_M) : Option (Unit × jx_M) :=
  jck (jin a1 40) (jlet (jx_w M o 0 a1 0) (fun M_1 => L_X0_fillPosts_9 o o1 a1 (fun M_10 => jck (jin a1 40) (jbd (F_J6_bitCount_0f7a4 (jx_r M_10 o 0 a1) M_10) (fun r_3 M_11 => jlet (jx_p M_11 o 1 ((M_10 o 1 0) + r_3)) (fun M_12 => some ((), M_12))))) jfu 0 M_1))
def F_X0_stateNow (o : Nat) (a1 : Int32) (a2 : Int32) (M : jx_M) : Option (Int32 × jx_M) :=
  if (((M o 11 0) >>> (a1 &&& 31)) &&& 1) = 0 then if (((M o 12 0) >>> (a1 &&& 31)) &&& 1) = 0 then jck (jin a1 6) (if (jx_r M 2 4 a1) ≤ a2 then some (3, M) else some (0, M)) else some (2, M) else some (1, M)
def L_X0_noteAndGrowOld_2 (o : Nat) (y1 : Int32) (k : jx_M → Option (Unit × jx_M)) : Nat → Int32 → jx_M → Option (Unit × jx_M)
  | 0, _, _ => none
  | n + 1, z2, M => if (M 2 1 0) ≤ z2 then k M else jlet ((y1 * 6) + z2) (fun x3_1 => jbd (F_X0_stateNow o z2 y1 M) (fun r_1 M_1 => jck (jin x3_1 240) (jlet (jx_w M_1 o 6 x3_1 r_1) (fun M_2 => jck (jin x3_1 240) (if (jx_r M_2 o 6 x3_1) = 1 then jck (jin z2 6) (jck (jin z2 6) (jlet (jx_w M_2 o 10 z2 ((jx_r M_2 o 10 z2) + 1)) (fun M_4 => jck (jin z2 6) (jck (jin z2 6) (if (jx_r M_4 o 10 z2) < (jx_r M_4 2 5 z2) then jck (jin z2 6) (jck (jin x3_1 240) (jlet (jx_w M_4 o 7 x3_1 (jx_r M_4 o 10 z2)) (fun M_5 => jlet (z2 + 1) (fun x2_2 => L_X0_noteAndGrowOld_2 o y1 k n x2_2 M_5)))) else jlet (jx_p M_4 o 11 ((M_4 o 11 0) &&& ((1 <<< (z2 &&& 31)) ^^^ (-1)))) (fun M_6 => jck (jin z2 6) (jck (jin x3_1 240) (jlet (jx_w M_6 o 7 x3_1 (jx_r M_6 o 10 z2)) (fun M_7 => jlet (z2 + 1) (fun x2_3 => L_X0_noteAndGrowOld_2 o y1 k n x2_3 M_7)))))))))) else jck (jin z2 6) (jck (jin x3_1 240) (jlet (jx_w M_2 o 7 x3_1 (jx_r M_2 o 10 z2)) (fun M_3 => jlet (z2 + 1) (fun x2_1 => L_X0_noteAndGrowOld_2 o y1 k n x2_1 M_3)))))))))
def F_X0_noteAndGrowOld (o : Nat) (a1 : Int32) (M : jx_M) : Option (Unit × jx_M) :=
  L_X0_noteAndGrowOld_2 o a1 (fun M_8 => some ((), M_8)) jfu 0 M
def L_X0_run_37 (o : Nat) (o1 : Nat) (y2 : Int32) (y3 : Int32) (k : jx_M → Option (Unit × jx_M)) : Nat → jx_M → Option (Unit × jx_M)
  | 0, _ => none
  | n + 1, M => if y2 < (M o 2 0) then k M else if 40 ≤ (M o 2 0) then k M else if y3 ≤ (M o 1 0) then k M else jbd (F_X0_wakeAndBear o (M o 2 0) (M o1 1 0) M) (fun r_3 M_7 => jbd (F_X0_fillPosts o (M_7 o 2 0) o1 M_7) (fun r_4 M_8 => jbd (F_X0_noteAndGrowOld o (M_8 o 2 0) M_8) (fun r_5 M_9 => jlet (jx_p M_9 o 2 ((M_9 o 2 0) + 1)) (fun M_10 => L_X0_run_37 o o1 y2 y3 k n M_10))))
def F_X0_run (o : Nat) (o1 : Nat) (a2 : Int32) (a3 : Int32) (M : jx_M) : Option (Unit × jx_M) :=
  jlet (jx_p M o 11 0) (fun M_1 => jlet (jx_p M_1 o 12 0) (fun M_2 => jlet (jx_p M_2 o 1 0) (fun M_3 => jbd (F_J7_fill_53178 o 8 4 (-9) M_3) (fun r_1 M_4 => jbd (F_J7_fill_53178 o 10 6 0 M_4) (fun r_2 M_5 => jlet (jx_p M_5 o 2 0) (fun M_6 => L_X0_run_37 o o1 a2 a3 (fun M_11 => some ((), M_11)) jfu M_6))))))
def F_X4_read (a1 : Int32) (a2 : Int32) (M : jx_M) : Option (Int32 × jx_M) :=
  jck (jin ((a1 * 60) + a2) 240) (some (jx_r M 1 2 ((a1 * 60) + a2), M))
def L_X1_kindOf_2 (y0 : Int32) (k : jx_M → Option (Int32 × jx_M)) : Nat → Int32 → jx_M → Option (Int32 × jx_M)
  | 0, _, _ => none
  | n + 1, z1, M => if 3 ≤ z1 then k M else jck (jin z1 3) (if (jx_lt z1.toNatClampNeg) = y0 then some (z1, M) else jlet (z1 + 1) (fun x1_1 => L_X1_kindOf_2 y0 k n x1_1 M))
def F_X1_kindOf (a0 : Int32) (M : jx_M) : Option (Int32 × jx_M) :=
  L_X1_kindOf_2 a0 (fun M_1 => some ((-9), M_1)) jfu 0 M
def F_X1_goesOn (a0 : Int32) (a1 : Int32) (a2 : Int32) (M : jx_M) : Option (Int32 × jx_M) :=
  if a0 = 0 then if a1 = 99 then some (1, M) else some (0, M) else if a0 = 1 then if a1 < 49 then some (0, M) else if 52 < a1 then some (0, M) else some (1, M) else if a0 < 38 then jlet ((a0 - 2) - (a0 - 2) / 6 * 6) (fun sw_1 => if sw_1 = 0 then if a1 = 59 then some (1, M) else some (0, M) else if sw_1 = 1 then jbd (F_X1_kindOf a1 M) (fun r_1 M_1 => if r_1 = (-9) then some (0, M_1) else some (1, M_1)) else if sw_1 = 2 then if a1 < 48 then some (0, M) else if (48 + a2) ≤ a1 then some (0, M) else some (1, M) else if sw_1 = 3 then if a1 < 48 then some (0, M) else if 57 < a1 then some (0, M) else some (1, M) else if a1 < 49 then some (0, M) else if 57 < a1 then some (0, M) else some (1, M)) else some (0, M)
def L_X1_firstFault_6 (y1 : Int32) (y2 : Int32) (y3 : Int32) (k : jx_M → Option (Int32 × jx_M)) : Nat → Int32 → Int32 → jx_M → Option (Int32 × jx_M)
  | 0, _, _, _ => none
  | n + 1, z4, z5, M => if y3 ≤ z5 then k M else jbd (F_X4_read y1 (y2 + z5) M) (fun r_1 M_1 => jbd (F_X1_goesOn z5 r_1 z4 M_1) (fun r_2 M_2 => if r_2 = 0 then some (z5, M_2) else if z5 = 1 then jlet (r_1 - 48) (fun x4_1 => jlet (z5 + 1) (fun x5_2 => L_X1_firstFault_6 y1 y2 y3 k n x4_1 x5_2 M_2)) else jlet (z5 + 1) (fun x5_1 => L_X1_firstFault_6 y1 y2 y3 k n z4 x5_1 M_2)))
def F_X1_firstFault (a1 : Int32) (a2 : Int32) (a3 : Int32) (M : jx_M) : Option (Int32 × jx_M) :=
  L_X1_firstFault_6 a1 a2 a3 (fun M_3 => if a3 < 14 then some (a3, M_3) else if ((a3 - 2) - (a3 - 2) / 6 * 6) = 0 then some ((-9), M_3) else some (a3, M_3)) jfu 0 0 M
def L_X1_settle_29 (y2 : Int32) (y3 : Int32) (k : jx_M → Option (Unit × jx_M)) : Nat → Int32 → jx_M → Option (Unit × jx_M)
  | 0, _, _ => none
  | n + 1, z5, M => if (M 2 1 0) ≤ z5 then k M else jlet ((y3 + 2) + (z5 * 6)) (fun x6_1 => jbd (F_X4_read y2 (x6_1 + 1) M) (fun r_2 M_4 => jbd (F_X1_kindOf r_2 M_4) (fun r_3 M_5 => jck (jin z5 6) (jlet (jx_w M_5 2 2 z5 r_3) (fun M_6 => jbd (F_X4_read y2 (x6_1 + 2) M_6) (fun r_4 M_7 => jck (jin z5 6) (jlet (jx_w M_7 2 3 z5 (r_4 - 48)) (fun M_8 => jbd (F_X4_read y2 (x6_1 + 3) M_8) (fun r_5 M_9 => jck (jin z5 6) (jlet (jx_w M_9 2 4 z5 (r_5 - 48)) (fun M_10 => jbd (F_X4_read y2 (x6_1 + 4) M_10) (fun r_6 M_11 => jck (jin z5 6) (jlet (jx_w M_11 2 5 z5 (r_6 - 48)) (fun M_12 => jbd (F_X4_read y2 (x6_1 + 5) M_12) (fun r_7 M_13 => jck (jin z5 6) (jlet (jx_w M_13 2 6 z5 (r_7 - 48)) (fun M_14 => jlet (z5 + 1) (fun x5_1 => L_X1_settle_29 y2 y3 k n x5_1 M_14))))))))))))))))))
def F_X1_settle (a2 : Int32) (a3 : Int32) (a4 : Int32) (M : jx_M) : Option (Unit × jx_M) :=
  jbd (F_X4_read a2 (a3 + 1) M) (fun r_1 M_1 => jlet (jx_p M_1 2 0 (r_1 - 48)) (fun M_2 => jlet (jx_p M_2 2 1 ((a4 - 2) / 6)) (fun M_3 => L_X1_settle_29 a2 a3 (fun M_15 => some ((), M_15)) jfu 0 M_3)))
def F_X1_setCount  (M : jx_M) : Option (Int32 × jx_M) :=
  some (1 <<< ((M 2 1 0) &&& 31), M)
def F_X2_clear (o : Nat) (M : jx_M) : Option (Unit × jx_M) :=
  jlet (jx_p M o 0 0) (fun M_1 => jlet (jx_p M_1 o 1 0) (fun M_2 => jlet (jx_p M_2 o 2 0) (fun M_3 => jbd (F_J7_fill_53178 o 3 4 40 M_3) (fun r_1 M_4 => some ((), M_4)))))
def F_X2_takeOver (o : Nat) (o1 : Nat) (M : jx_M) : Option (Unit × jx_M) :=
  jlet (jx_p M o 0 (M o1 0 0)) (fun M_1 => jlet (jx_p M_1 o 1 (M_1 o1 1 0)) (fun M_2 => jlet (jx_p M_2 o 2 (M_2 o1 2 0)) (fun M_3 => jck (jcp 0 0 4 4 4) (jlet (jx_cp M_3 o1 3 o 3 0 0 4) (fun M_4 => jck (jcp 0 0 6 7 7) (jlet (jx_cp M_4 o1 4 o 4 0 0 6) (fun M_5 => jck (jcp 0 0 6 7 7) (jlet (jx_cp M_5 o1 5 o 5 0 0 6) (fun M_6 => jck (jcp 0 0 6 7 7) (jlet (jx_cp M_6 o1 6 o 6 0 0 6) (fun M_7 => some ((), M_7))))))))))))
def F_X2_addWill (o : Nat) (a1 : Int32) (a2 : Int32) (a3 : Int32) (M : jx_M) : Option (Unit × jx_M) :=
  if (M o 2 0) ≤ 6 then jck (jin (M o 2 0) 7) (jlet (jx_w M o 4 (M o 2 0) a1) (fun M_1 => jck (jin (M_1 o 2 0) 7) (jlet (jx_w M_1 o 5 (M_1 o 2 0) a2) (fun M_2 => jck (jin (M_2 o 2 0) 7) (jlet (jx_w M_2 o 6 (M_2 o 2 0) a3) (fun M_3 => jlet (jx_p M_3 o 2 ((M_3 o 2 0) + 1)) (fun M_4 => some ((), M_4)))))))) else some ((), M)
def F_X3_addReading (a1 : Int32) (a2 : Int32) (a3 : Int32) (M : jx_M) : Option (Unit × jx_M) :=
  jck (jin (M 4 0 0) 8) (jlet (jx_w M 4 1 (M 4 0 0) a1) (fun M_1 => jck (jin (M_1 4 0 0) 8) (jlet (jx_w M_1 4 2 (M_1 4 0 0) a2) (fun M_2 => jck (jin (M_2 4 0 0) 8) (jlet (jx_w M_2 4 3 (M_2 4 0 0) a3) (fun M_3 => jlet (jx_p M_3 4 0 ((M_3 4 0 0) + 1)) (fun M_4 => some ((), M_4))))))))
def L_X3_lastDecade_4 (k : Int32 → jx_M → Option (Int32 × jx_M)) : Nat → Int32 → Int32 → jx_M → Option (Int32 × jx_M)
  | 0, _, _, _ => none
  | n + 1, z1, z2, M => if (M 4 0 0) ≤ z2 then k z1 M else jck (jin z2 8) (jlet (jmax z1 (jx_r M 4 2 z2)) (fun x1_1 => jlet (z2 + 1) (fun x2_1 => L_X3_lastDecade_4 k n x1_1 x2_1 M)))
def F_X3_lastDecade  (M : jx_M) : Option (Int32 × jx_M) :=
  L_X3_lastDecade_4 (fun x1_2 M_1 => some (x1_2, M_1)) jfu (-1) 0 M
def L_X3_areSo_2 (o : Nat) (k : jx_M → Option (Int32 × jx_M)) : Nat → Int32 → jx_M → Option (Int32 × jx_M)
  | 0, _, _ => none
  | n + 1, z2, M => if (M 4 0 0) ≤ z2 then k M else jck (jin z2 8) (jck (jin z2 8) (jbd (F_X0_guardAt o (jx_r M 4 1 z2) (jx_r M 4 2 z2) M) (fun r_1 M_1 => jck (jin z2 8) (if r_1 = (jx_r M_1 4 3 z2) then jlet (z2 + 1) (fun x2_1 => L_X3_areSo_2 o k n x2_1 M_1) else some (0, M_1)))))
def F_X3_areSo (o : Nat) (M : jx_M) : Option (Int32 × jx_M) :=
  L_X3_areSo_2 o (fun M_2 => some (1, M_2)) jfu 0 M
def F_X4_has (a1 : Int32) (M : jx_M) : Option (Int32 × jx_M) :=
  jck (jin a1 4) (if (jx_r M 1 0 a1) = (-9) then some (0, M) else some (1, M))
def L_X4_lay_17 (y1 : Int32) (y3 : Int32) (k : jx_M → Option (Unit × jx_M)) : Nat → Int32 → jx_M → Option (Unit × jx_M)
  | 0, _, _ => none
  | n + 1, z4, M => if y3 ≤ z4 then k M else jck (jin ((y1 * 60) + z4) 240) (jlet (jx_w M 1 2 ((y1 * 60) + z4) 0) (fun M_3 => jlet (z4 + 1) (fun x4_1 => L_X4_lay_17 y1 y3 k n x4_1 M_3)))
def F_X4_lay (a1 : Int32) (a2 : Int32) (a3 : Int32) (M : jx_M) : Option (Unit × jx_M) :=
  jck (jin a1 4) (jlet (jx_w M 1 0 a1 a2) (fun M_1 => jck (jin a1 4) (jlet (jx_w M_1 1 1 a1 a3) (fun M_2 => L_X4_lay_17 a1 a3 (fun M_4 => some ((), M_4)) jfu 0 M_2))))
def F_X4_drop (a1 : Int32) (M : jx_M) : Option (Unit × jx_M) :=
  jck (jin a1 4) (jlet (jx_w M 1 0 a1 (-9)) (fun M_1 => jck (jin a1 4) (jlet (jx_w M_1 1 1 a1 0) (fun M_2 => some ((), M_2)))))
def F_X4_spans (a1 : Int32) (a2 : Int32) (a3 : Int32) (M : jx_M) : Option (Int32 × jx_M) :=
  if a2 < 0 then some (0, M) else jck (jin a1 4) (if (jx_r M 1 1 a1) < a2 then some (0, M) else if a3 < 0 then some (0, M) else jck (jin a1 4) (if ((jx_r M 1 1 a1) - a2) < a3 then some (0, M) else some (1, M)))
def F_X4_write (a1 : Int32) (a2 : Int32) (a3 : Int32) (M : jx_M) : Option (Unit × jx_M) :=
  jck (jin a1 4) (if (jx_r M 1 0 a1) = 0 then jlet a3.toInt8.toInt32 (fun x4_2 => jck (jin a1 4) (if (jx_r M 1 0 a1) = 1 then jlet a3.toInt16.toInt32 (fun x4_3 => jck (jin ((a1 * 60) + a2) 240) (jlet (jx_w M 1 2 ((a1 * 60) + a2) x4_3) (fun M_4 => some ((), M_4)))) else jck (jin ((a1 * 60) + a2) 240) (jlet (jx_w M 1 2 ((a1 * 60) + a2) x4_2) (fun M_3 => some ((), M_3))))) else jck (jin a1 4) (if (jx_r M 1 0 a1) = 1 then jlet a3.toInt16.toInt32 (fun x4_1 => jck (jin ((a1 * 60) + a2) 240) (jlet (jx_w M 1 2 ((a1 * 60) + a2) x4_1) (fun M_2 => some ((), M_2)))) else jck (jin ((a1 * 60) + a2) 240) (jlet (jx_w M 1 2 ((a1 * 60) + a2) a3) (fun M_1 => some ((), M_1)))))
def F_X4_move (a1 : Int32) (a2 : Int32) (a3 : Int32) (a4 : Int32) (a5 : Int32) (M : jx_M) : Option (Unit × jx_M) :=
  jck (jcp ((a1 * 60) + a2) ((a3 * 60) + a4) a5 240 240) (jlet (jx_cp M 1 2 1 2 ((a1 * 60) + a2) ((a3 * 60) + a4) a5) (fun M_1 => some ((), M_1)))
def F_X5_isSheet (a0 : Int32) (M : jx_M) : Option (Int32 × jx_M) :=
  if a0 < 0 then some (0, M) else if 4 ≤ a0 then some (0, M) else some (1, M)
def F_X5_isLane (a0 : Int32) (M : jx_M) : Option (Int32 × jx_M) :=
  if a0 < 0 then some (0, M) else if 3 ≤ a0 then some (0, M) else some (1, M)
def F_X5_faultOfRow (a1 : Int32) (a2 : Int32) (M : jx_M) : Option (Int32 × jx_M) :=
  jbd (F_X4_has a1 M) (fun r_1 M_1 => if r_1 = 0 then some (1, M_1) else jck (jin a1 4) (if (jx_r M_1 1 0 a1) = a2 then some (0, M_1) else some (2, M_1)))
def F_X5_faulty (a1 : Int32) (M : jx_M) : Option (Int32 × jx_M) :=
  jlet (jx_p M 0 13 a1) (fun M_1 => some ((-10) - a1, M_1))
def F_X5_unsettle  (M : jx_M) : Option (Unit × jx_M) :=
  jlet (jx_p M 0 8 0) (fun M_1 => jlet (jx_p M_1 0 9 0) (fun M_2 => jlet (jx_p M_2 0 10 0) (fun M_3 => some ((), M_3))))
def F_X5_land (a1 : Int32) (a2 : Int32) (a3 : Int32) (a4 : Int32) (M : jx_M) : Option (Int32 × jx_M) :=
  jlet (jx_p M 0 13 0) (fun M_1 => jbd (F_X5_isSheet a1 M_1) (fun r_1 M_2 => if r_1 = 0 then some ((-1), M_2) else jbd (F_X5_isLane a2 M_2) (fun r_2 M_3 => if r_2 = 0 then some ((-2), M_3) else jbd (F_X5_faultOfRow a1 a2 M_3) (fun r_3 M_4 => if r_3 = 0 then if 0 ≤ a4 then if r_3 = 0 then jbd (F_X4_spans a1 a3 a4 M_4) (fun r_21 M_25 => if r_21 = 0 then jbd (F_X5_faulty 3 M_25) (fun r_27 M_32 => some (r_27, M_32)) else if r_3 = 0 then jbd (F_X1_firstFault a1 a3 a4 M_25) (fun r_22 M_26 => if r_22 = (-9) then jbd (F_X1_settle a1 a3 a4 M_26) (fun r_23 M_27 => jbd (F_X2_clear 3 M_27) (fun r_24 M_28 => jlet (jx_p M_28 4 0 0) (fun M_29 => jbd (F_X5_unsettle M_29) (fun r_25 M_30 => some (M_30 2 1 0, M_30))))) else some ((-100) - r_22, M_26)) else jbd (F_X5_faulty r_3 M_25) (fun r_26 M_31 => some (r_26, M_31))) else if r_3 = 0 then jbd (F_X1_firstFault a1 a3 a4 M_4) (fun r_16 M_19 => if r_16 = (-9) then jbd (F_X1_settle a1 a3 a4 M_19) (fun r_17 M_20 => jbd (F_X2_clear 3 M_20) (fun r_18 M_21 => jlet (jx_p M_21 4 0 0) (fun M_22 => jbd (F_X5_unsettle M_22) (fun r_19 M_23 => some (M_23 2 1 0, M_23))))) else some ((-100) - r_16, M_19)) else jbd (F_X5_faulty r_3 M_4) (fun r_20 M_24 => some (r_20, M_24)) else jbd (F_X5_faulty 4 M_4) (fun r_28 M_33 => some (r_28, M_33)) else if r_3 = 0 then jbd (F_X4_spans a1 a3 a4 M_4) (fun r_9 M_11 => if r_9 = 0 then jbd (F_X5_faulty 3 M_11) (fun r_15 M_18 => some (r_15, M_18)) else if r_3 = 0 then jbd (F_X1_firstFault a1 a3 a4 M_11) (fun r_10 M_12 => if r_10 = (-9) then jbd (F_X1_settle a1 a3 a4 M_12) (fun r_11 M_13 => jbd (F_X2_clear 3 M_13) (fun r_12 M_14 => jlet (jx_p M_14 4 0 0) (fun M_15 => jbd (F_X5_unsettle M_15) (fun r_13 M_16 => some (M_16 2 1 0, M_16))))) else some ((-100) - r_10, M_12)) else jbd (F_X5_faulty r_3 M_11) (fun r_14 M_17 => some (r_14, M_17))) else if r_3 = 0 then jbd (F_X1_firstFault a1 a3 a4 M_4) (fun r_4 M_5 => if r_4 = (-9) then jbd (F_X1_settle a1 a3 a4 M_5) (fun r_5 M_6 => jbd (F_X2_clear 3 M_6) (fun r_6 M_7 => jlet (jx_p M_7 4 0 0) (fun M_8 => jbd (F_X5_unsettle M_8) (fun r_7 M_9 => some (M_9 2 1 0, M_9))))) else some ((-100) - r_4, M_5)) else jbd (F_X5_faulty r_3 M_4) (fun r_8 M_10 => some (r_8, M_10))))))
def F_X5_isPerson (a1 : Int32) (M : jx_M) : Option (Int32 × jx_M) :=
  if a1 < 0 then some (0, M) else if (M 2 1 0) ≤ a1 then some (0, M) else some (1, M)
def F_X5_ofPerson (a1 : Int32) (a2 : Int32) (M : jx_M) : Option (Int32 × jx_M) :=
  jbd (F_X5_isPerson a1 M) (fun r_1 M_1 => if r_1 = 0 then some ((-1), M_1) else if a2 < 0 then some ((-2), M_1) else if a2 < 7 then if a2 = 0 then jck (jin a1 6) (some (jx_r M_1 2 2 a1, M_1)) else if a2 = 1 then jck (jin a1 6) (some (jx_r M_1 2 3 a1, M_1)) else if a2 = 2 then jck (jin a1 6) (some (jx_r M_1 2 4 a1, M_1)) else if a2 = 3 then jck (jin a1 6) (some (jx_r M_1 2 5 a1, M_1)) else if a2 = 4 then jck (jin a1 6) (some (jx_r M_1 2 6 a1, M_1)) else if a2 = 5 then jbd (F_X1_sleepOf a1 M_1) (fun r_2 M_2 => some (r_2, M_2)) else some (((M_1 3 1 0) >>> (a1 &&& 31)) &&& 1, M_1) else some ((-2), M_1))
def F_X5_isLand  (M : jx_M) : Option (Int32 × jx_M) :=
  if (M 2 0 0) ≤ 0 then some (0, M) else some (1, M)
def F_X5_law (a1 : Int32) (M : jx_M) : Option (Int32 × jx_M) :=
  if a1 < 0 then some ((-2), M) else if a1 < 3 then jbd (F_X5_isLand M) (fun r_1 M_1 => if r_1 = 0 then some ((-3), M_1) else jlet (M_1 3 0 0) (fun x2_1 => jlet (jx_p M_1 3 0 a1) (fun M_2 => jbd (F_X5_unsettle M_2) (fun r_2 M_3 => some (x2_1, M_3))))) else some ((-2), M)
def F_X5_refuse (a1 : Int32) (a2 : Int32) (M : jx_M) : Option (Int32 × jx_M) :=
  jbd (F_X5_isPerson a1 M) (fun r_1 M_1 => if r_1 = 0 then some ((-1), M_1) else jlet (1 <<< (a1 &&& 31)) (fun x3_1 => if ((M_1 3 1 0) &&& x3_1) = 0 then if 0 = a2 then some (0, M_1) else jlet (jx_p M_1 3 1 ((M_1 3 1 0) ^^^ x3_1)) (fun M_2 => jbd (F_X5_unsettle M_2) (fun r_2 M_3 => some (1, M_3))) else if 1 = a2 then some (0, M_1) else jlet (jx_p M_1 3 1 ((M_1 3 1 0) ^^^ x3_1)) (fun M_4 => jbd (F_X5_unsettle M_4) (fun r_3 M_5 => some (1, M_5)))))
def F_X5_isPost (a1 : Int32) (M : jx_M) : Option (Int32 × jx_M) :=
  if a1 < 0 then some (0, M) else if (M 2 0 0) ≤ a1 then some (0, M) else some (1, M)
def F_X5_isDecade (a0 : Int32) (M : jx_M) : Option (Int32 × jx_M) :=
  if a0 < 0 then some (0, M) else if 40 ≤ a0 then some (0, M) else some (1, M)
def F_X5_will (a1 : Int32) (a2 : Int32) (a3 : Int32) (M : jx_M) : Option (Int32 × jx_M) :=
  jbd (F_X5_isPost a1 M) (fun r_1 M_1 => if r_1 = 0 then some ((-1), M_1) else jbd (F_X5_isPerson a2 M_1) (fun r_2 M_2 => if r_2 = 0 then some ((-1), M_2) else jbd (F_X5_isDecade a3 M_2) (fun r_3 M_3 => if r_3 = 0 then some ((-2), M_3) else if (M_3 3 2 0) < 6 then jbd (F_X2_addWill 3 a1 a2 a3 M_3) (fun r_4 M_4 => jbd (F_X5_unsettle M_4) (fun r_5 M_5 => some ((M_5 3 2 0) - 1, M_5))) else some ((-4), M_3))))
def F_X5_burn (a1 : Int32) (M : jx_M) : Option (Int32 × jx_M) :=
  if a1 < 0 then some ((-2), M) else if a1 ≤ (M 3 2 0) then jlet (jx_p M 3 2 ((M 3 2 0) - a1)) (fun M_1 => jbd (F_X5_unsettle M_1) (fun r_1 M_2 => some (M_2 3 2 0, M_2))) else some ((-2), M)
def F_X5_giveUp (a1 : Int32) (a2 : Int32) (M : jx_M) : Option (Int32 × jx_M) :=
  jbd (F_X5_isPost a1 M) (fun r_1 M_1 => if r_1 = 0 then some ((-1), M_1) else if a2 < 0 then some ((-2), M_1) else if a2 ≤ 40 then jck (jin a1 4) (jlet (jx_r M_1 3 3 a1) (fun x3_1 => jck (jin a1 4) (jlet (jx_w M_1 3 3 a1 a2) (fun M_2 => jbd (F_X5_unsettle M_2) (fun r_2 M_3 => some (x3_1, M_3)))))) else some ((-2), M_1))
def F_X5_asItGoes  (M : jx_M) : Option (Unit × jx_M) :=
  if (M 0 8 0) = 0 then jbd (F_X0_run 5 3 39 1000 M) (fun r_1 M_1 => jlet (jx_p M_1 0 8 1) (fun M_2 => some ((), M_2))) else some ((), M)
def F_X5_guard (a1 : Int32) (a2 : Int32) (M : jx_M) : Option (Int32 × jx_M) :=
  jbd (F_X5_isPost a1 M) (fun r_1 M_1 => if r_1 = 0 then some ((-1), M_1) else jbd (F_X5_isDecade a2 M_1) (fun r_2 M_2 => if r_2 = 0 then some ((-2), M_2) else jbd (F_X5_asItGoes M_2) (fun r_3 M_3 => jbd (F_X0_guardAt 5 a1 a2 M_3) (fun r_4 M_4 => some (r_4, M_4)))))
def F_X5_how (a1 : Int32) (a2 : Int32) (M : jx_M) : Option (Int32 × jx_M) :=
  jbd (F_X5_isPerson a1 M) (fun r_1 M_1 => if r_1 = 0 then some ((-1), M_1) else jbd (F_X5_isDecade a2 M_1) (fun r_2 M_2 => if r_2 = 0 then some ((-2), M_2) else jbd (F_X5_asItGoes M_2) (fun r_3 M_3 => jbd (F_X0_stateAt 5 a1 a2 M_3) (fun r_4 M_4 => some (r_4, M_4)))))
def F_X5_age (a1 : Int32) (a2 : Int32) (M : jx_M) : Option (Int32 × jx_M) :=
  jbd (F_X5_isPerson a1 M) (fun r_1 M_1 => if r_1 = 0 then some ((-1), M_1) else jbd (F_X5_isDecade a2 M_1) (fun r_2 M_2 => if r_2 = 0 then some ((-2), M_2) else jbd (F_X5_asItGoes M_2) (fun r_3 M_3 => jbd (F_X0_agedAt 5 a1 a2 M_3) (fun r_4 M_4 => some (r_4, M_4)))))
def F_X5_empty (a1 : Int32) (M : jx_M) : Option (Int32 × jx_M) :=
  jbd (F_X5_isDecade a1 M) (fun r_1 M_1 => if r_1 = 0 then some ((-2), M_1) else jbd (F_X5_isLand M_1) (fun r_2 M_2 => if r_2 = 0 then some ((-3), M_2) else jbd (F_X5_asItGoes M_2) (fun r_3 M_3 => jck (jin a1 40) (some (jx_r M_3 5 0 a1, M_3)))))
def F_X5_empties (a1 : Int32) (M : jx_M) : Option (Int32 × jx_M) :=
  jbd (F_X5_isDecade a1 M) (fun r_1 M_1 => if r_1 = 0 then some ((-2), M_1) else jbd (F_X5_isLand M_1) (fun r_2 M_2 => if r_2 = 0 then some ((-3), M_2) else jbd (F_X5_asItGoes M_2) (fun r_3 M_3 => jbd (F_X0_missedBy 5 a1 M_3) (fun r_4 M_4 => some (r_4, M_4)))))
def L_X5_awake_30 (y1 : Int32) (k : Int32 → jx_M → Option (Int32 × jx_M)) : Nat → Int32 → Int32 → jx_M → Option (Int32 × jx_M)
  | 0, _, _, _ => none
  | n + 1, z3, z4, M => if (M 2 1 0) ≤ z4 then k z3 M else jbd (F_X0_stateAt 5 z4 y1 M) (fun r_4 M_4 => if r_4 = 1 then jlet (z3 ||| (1 <<< (z4 &&& 31))) (fun x3_1 => jlet (z4 + 1) (fun x4_2 => L_X5_awake_30 y1 k n x3_1 x4_2 M_4)) else jlet (z4 + 1) (fun x4_1 => L_X5_awake_30 y1 k n z3 x4_1 M_4))
def F_X5_awake (a1 : Int32) (M : jx_M) : Option (Int32 × jx_M) :=
  jbd (F_X5_isDecade a1 M) (fun r_1 M_1 => if r_1 = 0 then some ((-2), M_1) else jbd (F_X5_isLand M_1) (fun r_2 M_2 => if r_2 = 0 then some ((-3), M_2) else jbd (F_X5_asItGoes M_2) (fun r_3 M_3 => L_X5_awake_30 a1 (fun x3_2 M_5 => some (x3_2, M_5)) jfu 0 0 M_3)))
def L_X5_slept_31 (y1 : Int32) (y2 : Int32) (k : Int32 → jx_M → Option (Int32 × jx_M)) : Nat → Int32 → Int32 → jx_M → Option (Int32 × jx_M)
  | 0, _, _, _ => none
  | n + 1, z4, z5, M => if y2 < z5 then k z4 M else jbd (F_X0_stateAt 5 y1 z5 M) (fun r_4 M_4 => if r_4 = 2 then jlet (z4 + 1) (fun x4_1 => jlet (z5 + 1) (fun x5_2 => L_X5_slept_31 y1 y2 k n x4_1 x5_2 M_4)) else jlet (z5 + 1) (fun x5_1 => L_X5_slept_31 y1 y2 k n z4 x5_1 M_4))
def F_X5_slept (a1 : Int32) (a2 : Int32) (M : jx_M) : Option (Int32 × jx_M) :=
  jbd (F_X5_isPerson a1 M) (fun r_1 M_1 => if r_1 = 0 then some ((-1), M_1) else jbd (F_X5_isDecade a2 M_1) (fun r_2 M_2 => if r_2 = 0 then some ((-2), M_2) else jbd (F_X5_asItGoes M_2) (fun r_3 M_3 => L_X5_slept_31 a1 a2 (fun x4_2 M_5 => some (x4_2, M_5)) jfu 0 0 M_3)))
def L_X5_findFalls_29 (y1 : Int32) (k : jx_M → Option (Unit × jx_M)) : Nat → Int32 → jx_M → Option (Unit × jx_M)
  | 0, _, _ => none
  | n + 1, z2, M => if y1 ≤ z2 then k M else jlet (jx_p M 6 1 ((y1 - 1) - z2)) (fun M_3 => jbd (F_X0_run 7 6 39 1 M_3) (fun r_3 M_4 => if (M_4 7 1 0) ≤ 0 then jck (jin z2 64) (jlet (jx_w M_4 0 7 z2 40) (fun M_5 => jlet (z2 + 1) (fun x2_1 => L_X5_findFalls_29 y1 k n x2_1 M_5))) else jck (jin z2 64) (jlet (jx_w M_4 0 7 z2 ((M_4 7 2 0) - 1)) (fun M_6 => jlet (z2 + 1) (fun x2_2 => L_X5_findFalls_29 y1 k n x2_2 M_6)))))
def F_X5_findFalls  (M : jx_M) : Option (Unit × jx_M) :=
  if (M 0 9 0) = 0 then jbd (F_X2_takeOver 6 3 M) (fun r_1 M_1 => jbd (F_X1_setCount M_1) (fun r_2 M_2 => L_X5_findFalls_29 r_2 (fun M_7 => jlet (jx_p M_7 0 9 1) (fun M_8 => some ((), M_8))) jfu 0 M_2)) else some ((), M)
def L_X5_fewest_33 (y1 : Int32) (k : Int32 → jx_M → Option (Int32 × jx_M)) : Nat → Int32 → Int32 → Int32 → jx_M → Option (Int32 × jx_M)
  | 0, _, _, _, _ => none
  | n + 1, z2, z3, z4, M => jbd (F_X1_setCount M) (fun r_4 M_4 => if r_4 ≤ z4 then k z2 M_4 else jck (jin z4 64) (if (jx_r M_4 0 7 z4) ≤ y1 then jlet (z4 + 1) (fun x4_1 => L_X5_fewest_33 y1 k n z2 z3 x4_1 M_4) else jbd (F_J6_bitCount_0f7a4 z4 M_4) (fun r_5 M_5 => if z3 ≤ r_5 then jlet (z4 + 1) (fun x4_2 => L_X5_fewest_33 y1 k n z2 z3 x4_2 M_5) else jbd (F_J6_bitCount_0f7a4 z4 M_5) (fun r_6 M_6 => jlet (z4 + 1) (fun x4_3 => L_X5_fewest_33 y1 k n z4 r_6 x4_3 M_6)))))
def F_X5_fewest (a1 : Int32) (M : jx_M) : Option (Int32 × jx_M) :=
  jbd (F_X5_isDecade a1 M) (fun r_1 M_1 => if r_1 = 0 then some ((-2), M_1) else jbd (F_X5_isLand M_1) (fun r_2 M_2 => if r_2 = 0 then some ((-3), M_2) else jbd (F_X5_findFalls M_2) (fun r_3 M_3 => L_X5_fewest_33 a1 (fun x2_1 M_7 => some (x2_1, M_7)) jfu (-9) 7 0 M_3)))
def F_X5_tryWill (a1 : Int32) (a2 : Int32) (a3 : Int32) (M : jx_M) : Option (Unit × jx_M) :=
  jbd (F_X2_takeOver 6 3 M) (fun r_1 M_1 => jbd (F_X2_addWill 6 a1 a2 a3 M_1) (fun r_2 M_2 => jbd (F_X0_run 7 6 39 (M_2 0 12 0) M_2) (fun r_3 M_3 => if (M_3 0 12 0) ≤ (M_3 7 1 0) then some ((), M_3) else jlet (jx_p M_3 0 12 (M_3 7 1 0)) (fun M_4 => jlet (jx_p M_4 0 11 (((1000 * a1) + (100 * a2)) + a3)) (fun M_5 => some ((), M_5))))))
def L_X5_findHelp_56 (y2 : Int32) (y3 : Int32) (k : jx_M → Option (Unit × jx_M)) : Nat → Int32 → jx_M → Option (Unit × jx_M)
  | 0, _, _ => none
  | n + 1, z4, M => if 40 ≤ z4 then k M else jbd (F_X0_wouldTurn 5 y2 y3 z4 M) (fun r_2 M_4 => if r_2 = 0 then jlet (z4 + 1) (fun x4_1 => L_X5_findHelp_56 y2 y3 k n x4_1 M_4) else jbd (F_X5_tryWill y2 y3 z4 M_4) (fun r_3 M_5 => jlet (z4 + 1) (fun x4_2 => L_X5_findHelp_56 y2 y3 k n x4_2 M_5)))
def L_X5_findHelp_42 (y2 : Int32) (k : jx_M → Option (Unit × jx_M)) : Nat → Int32 → jx_M → Option (Unit × jx_M)
  | 0, _, _ => none
  | n + 1, z3, M => if (M 2 1 0) ≤ z3 then k M else L_X5_findHelp_56 y2 z3 (fun M_6 => jlet (z3 + 1) (fun x3_1 => L_X5_findHelp_42 y2 k n x3_1 M_6)) jfu 0 M
def L_X5_findHelp_29 (k : jx_M → Option (Unit × jx_M)) : Nat → Int32 → jx_M → Option (Unit × jx_M)
  | 0, _, _ => none
  | n + 1, z2, M => if (M 2 0 0) ≤ z2 then k M else L_X5_findHelp_42 z2 (fun M_7 => jlet (z2 + 1) (fun x2_1 => L_X5_findHelp_29 k n x2_1 M_7)) jfu 0 M
def F_X5_findHelp  (M : jx_M) : Option (Unit × jx_M) :=
  if (M 0 10 0) = 0 then jbd (F_X5_asItGoes M) (fun r_1 M_1 => jlet (jx_p M_1 0 11 (-9)) (fun M_2 => jlet (jx_p M_2 0 12 (M_2 5 1 0)) (fun M_3 => L_X5_findHelp_29 (fun M_8 => jlet (jx_p M_8 0 10 1) (fun M_9 => some ((), M_9))) jfu 0 M_3))) else some ((), M)
def F_X5_help (a1 : Int32) (M : jx_M) : Option (Int32 × jx_M) :=
  if a1 < 0 then some ((-2), M) else if a1 ≤ 1 then jbd (F_X5_isLand M) (fun r_1 M_1 => if r_1 = 0 then some ((-3), M_1) else jbd (F_X5_findHelp M_1) (fun r_2 M_2 => if a1 = 0 then some (M_2 0 11 0, M_2) else some (M_2 0 12 0, M_2))) else some ((-2), M)
def L_X5_takeToldWills_22 (y1 : Int32) (y2 : Int32) (y3 : Int32) (k : jx_M → Option (Int32 × jx_M)) : Nat → Int32 → jx_M → Option (Int32 × jx_M)
  | 0, _, _ => none
  | n + 1, z4, M => if y3 ≤ z4 then k M else jlet (y2 + (3 * z4)) (fun x5_1 => jbd (F_X4_read y1 x5_1 M) (fun r_2 M_3 => jbd (F_X4_read y1 (x5_1 + 1) M_3) (fun r_3 M_4 => jbd (F_X4_read y1 (x5_1 + 2) M_4) (fun r_4 M_5 => jbd (F_X5_isPost r_2 M_5) (fun r_5 M_6 => if r_5 = 0 then some (0, M_6) else jbd (F_X5_isPerson r_3 M_6) (fun r_6 M_7 => if r_6 = 0 then some (0, M_7) else jbd (F_X5_isDecade r_4 M_7) (fun r_7 M_8 => if r_7 = 0 then some (0, M_8) else jbd (F_X2_addWill 6 r_2 r_3 r_4 M_8) (fun r_8 M_9 => jlet (z4 + 1) (fun x4_1 => L_X5_takeToldWills_22 y1 y2 y3 k n x4_1 M_9)))))))))
def F_X5_takeToldWills (a1 : Int32) (a2 : Int32) (a3 : Int32) (M : jx_M) : Option (Int32 × jx_M) :=
  jbd (F_X2_takeOver 6 3 M) (fun r_1 M_1 => jlet (jx_p M_1 6 2 0) (fun M_2 => L_X5_takeToldWills_22 a1 a2 a3 (fun M_10 => some (1, M_10)) jfu 0 M_2))
def F_X5_wills (a1 : Int32) (a2 : Int32) (a3 : Int32) (a4 : Int32) (M : jx_M) : Option (Int32 × jx_M) :=
  jlet (jx_p M 0 13 0) (fun M_1 => jbd (F_X5_isSheet a1 M_1) (fun r_1 M_2 => if r_1 = 0 then some ((-1), M_2) else jbd (F_X5_isLane a2 M_2) (fun r_2 M_3 => if r_2 = 0 then some ((-2), M_3) else if a4 < 0 then some ((-2), M_3) else if a4 ≤ 6 then jbd (F_X5_isLand M_3) (fun r_3 M_4 => if r_3 = 0 then some ((-3), M_4) else jbd (F_X5_faultOfRow a1 a2 M_4) (fun r_4 M_5 => if r_4 = 0 then jbd (F_X4_spans a1 a3 (3 * a4) M_5) (fun r_8 M_9 => if r_8 = 0 then jbd (F_X5_faulty 3 M_9) (fun r_12 M_13 => some (r_12, M_13)) else if r_4 = 0 then jbd (F_X5_takeToldWills a1 a3 a4 M_9) (fun r_9 M_10 => if r_9 = 0 then some ((-2), M_10) else jbd (F_X0_run 7 6 39 1000 M_10) (fun r_10 M_11 => some (M_11 7 1 0, M_11))) else jbd (F_X5_faulty r_4 M_9) (fun r_11 M_12 => some (r_11, M_12))) else if r_4 = 0 then jbd (F_X5_takeToldWills a1 a3 a4 M_5) (fun r_5 M_6 => if r_5 = 0 then some ((-2), M_6) else jbd (F_X0_run 7 6 39 1000 M_6) (fun r_6 M_7 => some (M_7 7 1 0, M_7))) else jbd (F_X5_faulty r_4 M_5) (fun r_7 M_8 => some (r_7, M_8)))) else some ((-2), M_3))))
def F_X5_reading (a1 : Int32) (a2 : Int32) (a3 : Int32) (M : jx_M) : Option (Int32 × jx_M) :=
  jbd (F_X5_isPost a1 M) (fun r_1 M_1 => if r_1 = 0 then some ((-1), M_1) else jbd (F_X5_isPerson a3 M_1) (fun r_2 M_2 => if r_2 = 0 then if a3 = (-9) then jbd (F_X5_isDecade a2 M_2) (fun r_5 M_5 => if r_5 = 0 then some ((-2), M_5) else if (M_5 4 0 0) < 8 then jbd (F_X3_addReading a1 a2 a3 M_5) (fun r_6 M_6 => some ((M_6 4 0 0) - 1, M_6)) else some ((-4), M_5)) else some ((-1), M_2) else jbd (F_X5_isDecade a2 M_2) (fun r_3 M_3 => if r_3 = 0 then some ((-2), M_3) else if (M_3 4 0 0) < 8 then jbd (F_X3_addReading a1 a2 a3 M_3) (fun r_4 M_4 => some ((M_4 4 0 0) - 1, M_4)) else some ((-4), M_3))))
def F_X5_back (a1 : Int32) (M : jx_M) : Option (Int32 × jx_M) :=
  if a1 < 0 then some ((-2), M) else if a1 ≤ (M 4 0 0) then jlet (jx_p M 4 0 ((M 4 0 0) - a1)) (fun M_1 => some (M_1 4 0 0, M_1)) else some ((-2), M)
def F_X5_allAreSo  (M : jx_M) : Option (Int32 × jx_M) :=
  jbd (F_X3_lastDecade M) (fun r_1 M_1 => jbd (F_X0_run 7 6 r_1 1000 M_1) (fun r_2 M_2 => jbd (F_X3_areSo 7 M_2) (fun r_3 M_3 => jck (jin r_3 2) (some (r_3, M_3)))))
def L_X5_laws_14 (k : Int32 → jx_M → Option (Int32 × jx_M)) : Nat → Int32 → Int32 → jx_M → Option (Int32 × jx_M)
  | 0, _, _, _ => none
  | n + 1, z1, z2, M => if 3 ≤ z2 then k z1 M else jbd (F_X2_takeOver 6 3 M) (fun r_2 M_2 => jlet (jx_p M_2 6 0 z2) (fun M_3 => jbd (F_X5_allAreSo M_3) (fun r_3 M_4 => if r_3 = 0 then jlet (z2 + 1) (fun x2_1 => L_X5_laws_14 k n z1 x2_1 M_4) else jlet (z1 ||| (1 <<< (z2 &&& 31))) (fun x1_1 => jlet (z2 + 1) (fun x2_2 => L_X5_laws_14 k n x1_1 x2_2 M_4)))))
def F_X5_laws  (M : jx_M) : Option (Int32 × jx_M) :=
  jbd (F_X5_isLand M) (fun r_1 M_1 => if r_1 = 0 then some ((-3), M_1) else L_X5_laws_14 (fun x1_2 M_5 => some (x1_2, M_5)) jfu 0 0 M_1)
def L_X5_stubborn_14 (k : Int32 → jx_M → Option (Int32 × jx_M)) : Nat → Int32 → Int32 → jx_M → Option (Int32 × jx_M)
  | 0, _, _, _ => none
  | n + 1, z1, z2, M => if (M 2 1 0) ≤ z2 then k z1 M else jbd (F_X2_takeOver 6 3 M) (fun r_2 M_2 => jlet (jx_p M_2 6 1 ((M_2 6 1 0) ||| (1 <<< (z2 &&& 31)))) (fun M_3 => jbd (F_X5_allAreSo M_3) (fun r_3 M_4 => if r_3 = 0 then jlet (z2 + 1) (fun x2_1 => L_X5_stubborn_14 k n z1 x2_1 M_4) else jlet (z1 ||| (1 <<< (z2 &&& 31))) (fun x1_1 => jlet (z2 + 1) (fun x2_2 => L_X5_stubborn_14 k n x1_1 x2_2 M_4)))))
def F_X5_stubborn  (M : jx_M) : Option (Int32 × jx_M) :=
  jbd (F_X5_isLand M) (fun r_1 M_1 => if r_1 = 0 then some ((-3), M_1) else L_X5_stubborn_14 (fun x1_2 M_5 => some (x1_2, M_5)) jfu 0 0 M_1)
def L_X5_named_25 (y1 : Int32) (y2 : Int32) (k : Int32 → jx_M → Option (Int32 × jx_M)) : Nat → Int32 → Int32 → jx_M → Option (Int32 × jx_M)
  | 0, _, _, _ => none
  | n + 1, z3, z4, M => if (M 2 1 0) ≤ z4 then k z3 M else jbd (F_X2_takeOver 6 3 M) (fun r_3 M_3 => jbd (F_X2_addWill 6 y1 z4 y2 M_3) (fun r_4 M_4 => jbd (F_X5_allAreSo M_4) (fun r_5 M_5 => if r_5 = 0 then jlet (z4 + 1) (fun x4_1 => L_X5_named_25 y1 y2 k n z3 x4_1 M_5) else jlet (z3 ||| (1 <<< (z4 &&& 31))) (fun x3_1 => jlet (z4 + 1) (fun x4_2 => L_X5_named_25 y1 y2 k n x3_1 x4_2 M_5)))))
def F_X5_named (a1 : Int32) (a2 : Int32) (M : jx_M) : Option (Int32 × jx_M) :=
  jbd (F_X5_isPost a1 M) (fun r_1 M_1 => if r_1 = 0 then some ((-1), M_1) else jbd (F_X5_isDecade a2 M_1) (fun r_2 M_2 => if r_2 = 0 then some ((-2), M_2) else L_X5_named_25 a1 a2 (fun x3_2 M_6 => some (x3_2, M_6)) jfu 0 0 M_2))
def L_X5_opened_14 (k : Int32 → jx_M → Option (Int32 × jx_M)) : Nat → Int32 → Int32 → jx_M → Option (Int32 × jx_M)
  | 0, _, _, _ => none
  | n + 1, z1, z2, M => if (M 2 0 0) ≤ z2 then k z1 M else jbd (F_X2_takeOver 6 3 M) (fun r_2 M_2 => jck (jin z2 4) (jlet (jx_w M_2 6 3 z2 40) (fun M_3 => jbd (F_X5_allAreSo M_3) (fun r_3 M_4 => if r_3 = 0 then jlet (z2 + 1) (fun x2_1 => L_X5_opened_14 k n z1 x2_1 M_4) else jlet (z1 ||| (1 <<< (z2 &&& 31))) (fun x1_1 => jlet (z2 + 1) (fun x2_2 => L_X5_opened_14 k n x1_1 x2_2 M_4))))))
def F_X5_opened  (M : jx_M) : Option (Int32 × jx_M) :=
  jbd (F_X5_isLand M) (fun r_1 M_1 => if r_1 = 0 then some ((-3), M_1) else L_X5_opened_14 (fun x1_2 M_5 => some (x1_2, M_5)) jfu 0 0 M_1)
def L_X5_odds_49 (y1 : Int32) (y2 : Int32) (y3 : Int32) (k : Int32 → jx_M → Option (Int64 × jx_M)) : Nat → Int32 → Int32 → jx_M → Option (Int64 × jx_M)
  | 0, _, _, _ => none
  | n + 1, z4, z5, M => jbd (F_X1_setCount M) (fun r_5 M_5 => if r_5 ≤ z5 then k z4 M_5 else jck (jin z5 64) (if (jx_r M_5 0 7 z5) ≤ y1 then jlet (z5 + 1) (fun x5_1 => L_X5_odds_49 y1 y2 y3 k n z4 x5_1 M_5) else jlet (z4 + 1) (fun x4_1 => jlet (z5 + 1) (fun x5_2 => L_X5_odds_49 y1 y2 y3 k n x4_1 x5_2 M_5))))
def L_X5_odds_81 (y2 : Int32) (k : Int32 → Int32 → jx_M → Option (Int64 × jx_M)) : Nat → Int32 → Int32 → jx_M → Option (Int64 × jx_M)
  | 0, _, _, _ => none
  | n + 1, z3, z4, M => if z3 ≤ 1 then k z3 z4 M else if (z4 - z4 / 2 * 2) = 0 then jlet (z4 / 2) (fun x4_3 => jlet (z3 / 2) (fun x3_1 => L_X5_odds_81 y2 k n x3_1 x4_3 M)) else k z3 z4 M
def F_X5_odds (a1 : Int32) (a2 : Int32) (M : jx_M) : Option (Int64 × jx_M) :=
  jbd (F_X5_isDecade a1 M) (fun r_1 M_1 => if r_1 = 0 then some ((-9223372036854775808), M_1) else if a2 < 0 then some ((-9223372036854775808), M_1) else if a2 ≤ 1 then jbd (F_X5_isLand M_1) (fun r_2 M_2 => if r_2 = 0 then some ((-9223372036854775808), M_2) else jbd (F_X5_findFalls M_2) (fun r_3 M_3 => jbd (F_X1_setCount M_3) (fun r_4 M_4 => L_X5_odds_49 a1 a2 r_4 (fun x4_2 M_6 => L_X5_odds_81 a2 (fun x3_2 x4_4 M_7 => if a2 = 0 then some (x4_4.toInt64, M_7) else some (x3_2.toInt64, M_7)) jfu r_4 x4_2 M_6) jfu 0 0 M_4))) else some ((-9223372036854775808), M_1))
def F_X5_sheet (a1 : Int32) (a2 : Int32) (a3 : Int32) (M : jx_M) : Option (Int32 × jx_M) :=
  jlet (jx_p M 0 13 0) (fun M_1 => jbd (F_X5_isSheet a1 M_1) (fun r_1 M_2 => if r_1 = 0 then some ((-1), M_2) else jbd (F_X5_isLane a2 M_2) (fun r_2 M_3 => if r_2 = 0 then some ((-2), M_3) else if a3 ≤ 60 then if 0 ≤ a3 then jbd (F_X4_lay a1 a2 a3 M_3) (fun r_3 M_4 => some (1, M_4)) else jbd (F_X5_faulty 4 M_3) (fun r_4 M_5 => some (r_4, M_5)) else some ((-2), M_3))))
def F_X5_lose (a1 : Int32) (M : jx_M) : Option (Int32 × jx_M) :=
  jbd (F_X5_isSheet a1 M) (fun r_1 M_1 => if r_1 = 0 then some ((-1), M_1) else jbd (F_X4_has a1 M_1) (fun r_2 M_2 => if r_2 = 0 then some (0, M_2) else jbd (F_X4_drop a1 M_2) (fun r_3 M_3 => some (1, M_3))))
def F_X5_put (a1 : Int32) (a2 : Int32) (a3 : Int32) (M : jx_M) : Option (Int32 × jx_M) :=
  jlet (jx_p M 0 13 0) (fun M_1 => jbd (F_X5_isSheet a1 M_1) (fun r_1 M_2 => if r_1 = 0 then some ((-1), M_2) else jbd (F_X4_has a1 M_2) (fun r_2 M_3 => if r_2 = 0 then jbd (F_X5_faulty 1 M_3) (fun r_6 M_7 => some (r_6, M_7)) else jbd (F_X4_spans a1 a2 1 M_3) (fun r_3 M_4 => if r_3 = 0 then jbd (F_X5_faulty 3 M_4) (fun r_5 M_6 => some (r_5, M_6)) else jbd (F_X4_write a1 a2 a3 M_4) (fun r_4 M_5 => some (1, M_5))))))
def F_X5_cell (a1 : Int32) (a2 : Int32) (a3 : Int32) (M : jx_M) : Option (Int64 × jx_M) :=
  jlet (jx_p M 0 13 0) (fun M_1 => jbd (F_X5_isSheet a1 M_1) (fun r_1 M_2 => if r_1 = 0 then some ((-9223372036854775808), M_2) else jbd (F_X5_isLane a3 M_2) (fun r_2 M_3 => if r_2 = 0 then some ((-9223372036854775808), M_3) else jbd (F_X5_faultOfRow a1 a3 M_3) (fun r_3 M_4 => if r_3 = 0 then jbd (F_X4_spans a1 a2 1 M_4) (fun r_5 M_7 => if r_5 = 0 then jlet (jx_p M_7 0 13 3) (fun M_10 => some ((-9223372036854775808), M_10)) else if r_3 = 0 then jbd (F_X4_read a1 a2 M_7) (fun r_6 M_9 => some (r_6.toInt64, M_9)) else jlet (jx_p M_7 0 13 r_3) (fun M_8 => some ((-9223372036854775808), M_8))) else if r_3 = 0 then jbd (F_X4_read a1 a2 M_4) (fun r_4 M_6 => some (r_4.toInt64, M_6)) else jlet (jx_p M_4 0 13 r_3) (fun M_5 => some ((-9223372036854775808), M_5))))))
def F_X5_copy (a1 : Int32) (a2 : Int32) (a3 : Int32) (a4 : Int32) (a5 : Int32) (M : jx_M) : Option (Int32 × jx_M) :=
  jlet (jx_p M 0 13 0) (fun M_1 => jbd (F_X5_isSheet a1 M_1) (fun r_1 M_2 => if r_1 = 0 then some ((-1), M_2) else jbd (F_X5_isSheet a3 M_2) (fun r_2 M_3 => if r_2 = 0 then some ((-1), M_3) else jbd (F_X4_has a1 M_3) (fun r_3 M_4 => if r_3 = 0 then jbd (F_X5_faulty 1 M_4) (fun r_4 M_5 => some (r_4, M_5)) else jbd (F_X4_has a3 M_4) (fun r_5 M_6 => if r_5 = 0 then jbd (F_X5_faulty 1 M_6) (fun r_12 M_13 => some (r_12, M_13)) else jck (jin a1 4) (jck (jin a3 4) (if (jx_r M_6 1 0 a1) = (jx_r M_6 1 0 a3) then jbd (F_X4_spans a1 a2 a5 M_6) (fun r_6 M_7 => if r_6 = 0 then jbd (F_X5_faulty 3 M_7) (fun r_7 M_8 => some (r_7, M_8)) else jbd (F_X4_spans a3 a4 a5 M_7) (fun r_8 M_9 => if r_8 = 0 then jbd (F_X5_faulty 3 M_9) (fun r_10 M_11 => some (r_10, M_11)) else jbd (F_X4_move a1 a2 a3 a4 a5 M_9) (fun r_9 M_10 => some (a5, M_10)))) else jbd (F_X5_faulty 2 M_6) (fun r_11 M_12 => some (r_11, M_12)))))))))
def F_X5_leave (a1 : Int32) (M : jx_M) : Option (Unit × jx_M) :=
  jlet (jx_p M 0 14 ((31 * (M 0 14 0)) + a1)) (fun M_1 => some ((), M_1))
def F_X5_tellDreamer (a1 : Int32) (M : jx_M) : Option (Int32 × jx_M) :=
  jbd (F_X5_leave 1 M) (fun r_1 M_1 => some (a1, M_1))
def F_X5_tellHeavy (a1 : Int32) (M : jx_M) : Option (Int32 × jx_M) :=
  jbd (F_X5_leave 2 M) (fun r_1 M_1 => jbd (F_X5_tellDreamer a1 M_1) (fun r_2 M_2 => some (r_2 + 100, M_2)))
def F_X5_tellEnchanted (a1 : Int32) (M : jx_M) : Option (Int32 × jx_M) :=
  jbd (F_X5_leave 3 M) (fun r_1 M_1 => jbd (F_X5_tellHeavy a1 M_1) (fun r_2 M_2 => jbd (F_X5_tellDreamer a1 M_2) (fun r_3 M_3 => some (r_2 + r_3, M_3))))
def F_X5_tell (a1 : Int32) (M : jx_M) : Option (Int32 × jx_M) :=
  jbd (F_X5_isPerson a1 M) (fun r_1 M_1 => if r_1 = 0 then some ((-1), M_1) else jck (jin a1 6) (jlet (jx_r M_1 2 6 a1) (fun x2_1 => jck (jin a1 6) (jlet (jx_r M_1 2 2 a1) (fun sw_1 => if sw_1 = 1 then jbd (F_X5_tellHeavy x2_1 M_1) (fun r_2 M_2 => some (r_2, M_2)) else if sw_1 = 2 then jbd (F_X5_tellEnchanted x2_1 M_1) (fun r_3 M_3 => some (r_3, M_3)) else jbd (F_X5_tellDreamer x2_1 M_1) (fun r_4 M_4 => some (r_4, M_4)))))))
def F_X5_rouse (a1 : Int32) (M : jx_M) : Option (Int32 × jx_M) :=
  jbd (F_X5_isPerson a1 M) (fun r_1 M_1 => if r_1 = 0 then some ((-1), M_1) else jck (jin a1 6) (if (jx_r M_1 2 2 a1) = 2 then jbd (F_X5_leave 5 M_1) (fun r_3 M_3 => some (70, M_3)) else jbd (F_X5_leave 4 M_1) (fun r_2 M_2 => some (a1, M_2))))
def F_X5_as (a1 : Int32) (a2 : Int32) (M : jx_M) : Option (Int32 × jx_M) :=
  jlet (jx_p M 0 13 0) (fun M_1 => jbd (F_X5_isPerson a1 M_1) (fun r_1 M_2 => if r_1 = 0 then some ((-1), M_2) else if a2 < 0 then some ((-2), M_2) else if a2 < 3 then jck (jin a1 6) (if (jx_r M_2 2 2 a1) < a2 then jbd (F_X5_faulty 2 M_2) (fun r_2 M_3 => some (r_2, M_3)) else some (1, M_2)) else some ((-2), M_2)))
def F_X5_trace  (M : jx_M) : Option (Int32 × jx_M) :=
  some (M 0 14 0, M)
def F_X5_fault  (M : jx_M) : Option (Int32 × jx_M) :=
  some (M 0 13 0, M)
def F_X5_many (a1 : Int32) (M : jx_M) : Option (Int32 × jx_M) :=
  if a1 < 0 then some ((-2), M) else if a1 < 5 then if a1 = 0 then some (M 2 1 0, M) else if a1 = 1 then some (M 2 0 0, M) else if a1 = 2 then some (M 3 2 0, M) else if a1 = 3 then some (M 4 0 0, M) else some (M 3 0 0, M) else some ((-2), M)
def F_X6_in (a0 : Int64) (a2 : Int64) (a4 : Int64) (M : jx_M) : Option (Int32 × jx_M) :=
  if (lg_cmp a0 a2) < 0 then some (0, M) else if 0 < (lg_cmp a0 a4) then some (0, M) else some (1, M)
def F_X6_lost  (M : jx_M) : Option (Int64 × jx_M) :=
  some ((-9223372036854775808), M)
def F_X6_isIn (a0 : Int32) (a1 : Int32) (M : jx_M) : Option (Int32 × jx_M) :=
  if ((a0 >>> (a1 &&& 31)) &&& 1) = 1 then some (1, M) else some (0, M)
def L_X6_bits_4 (k : Int32 → jx_M → Option (Int32 × jx_M)) : Nat → Int32 → Int32 → jx_M → Option (Int32 × jx_M)
  | 0, _, _, _ => none
  | n + 1, z1, z2, M => if z2 ≤ 0 then k z1 M else jlet (z1 + (z2 &&& 1)) (fun x1_1 => jlet (z2 >>> (1 &&& 31)) (fun x2_1 => L_X6_bits_4 k n x1_1 x2_1 M))
def F_X6_bits (a0 : Int32) (M : jx_M) : Option (Int32 × jx_M) :=
  L_X6_bits_4 (fun x1_2 M_1 => some (x1_2, M_1)) jfu 0 a0 M
def L_X6_told_6 (y0 : Int64) (y2 : Int64) (y4 : Int32) (k : Int64 → jx_M → Option (Int64 × jx_M)) : Nat → Int64 → Int64 → jx_M → Option (Int64 × jx_M)
  | 0, _, _, _ => none
  | n + 1, z5, z7, M => if (lg_cmp z7 0) = 0 then k z5 M else jck (!decide (z7 = 0)) (jlet (z5 - z5 / z7 * z7) (fun x9_1 => L_X6_told_6 y0 y2 y4 k n z7 x9_1 M))
def F_X6_told (a0 : Int64) (a2 : Int64) (a4 : Int32) (M : jx_M) : Option (Int64 × jx_M) :=
  L_X6_told_6 a0 a2 a4 (fun x5_1 M_1 => if a4 = 0 then jck (!decide (x5_1 = 0)) (some (a0 / x5_1, M_1)) else jck (!decide (x5_1 = 0)) (some (a2 / x5_1, M_1))) jfu a0 a2 M
def F_X6_refused (a1 : Int32) (M : jx_M) : Option (Int32 × jx_M) :=
  jlet (jx_p M 8 0 0) (fun M_1 => some (a1, M_1))
def F_X6_failed (a1 : Int32) (M : jx_M) : Option (Int32 × jx_M) :=
  jlet (jx_p M 8 0 a1) (fun M_1 => some ((-10) - a1, M_1))
def F_X6_failedLong (a1 : Int32) (M : jx_M) : Option (Int64 × jx_M) :=
  jlet (jx_p M 8 0 a1) (fun M_1 => jbd (F_X6_lost M_1) (fun r_1 M_2 => some (r_1, M_2)))
def F_X6_noPerson (a1 : Int32) (M : jx_M) : Option (Int32 × jx_M) :=
  jbd (F_X6_in a1.toInt64 0 (((M 8 2 0).toInt64) - 1) M) (fun r_1 M_1 => if r_1 = 0 then some (1, M_1) else some (0, M_1))
def F_X6_noPost (a1 : Int32) (M : jx_M) : Option (Int32 × jx_M) :=
  jbd (F_X6_in a1.toInt64 0 (((M 8 1 0).toInt64) - 1) M) (fun r_1 M_1 => if r_1 = 0 then some (1, M_1) else some (0, M_1))
def F_X6_isDecade (a0 : Int32) (M : jx_M) : Option (Int32 × jx_M) :=
  jbd (F_X6_in a0.toInt64 0 39 M) (fun r_1 M_1 => jck (jin r_1 2) (some (r_1, M_1)))
def F_X6_all  (M : jx_M) : Option (Int32 × jx_M) :=
  some ((1 <<< ((M 8 2 0) &&& 31)) - 1, M)
def F_X6_codeAt (a1 : Int32) (a2 : Int32) (M : jx_M) : Option (Int32 × jx_M) :=
  if a2 ≤ (M 8 11 0) then some ((-9), M) else jck (jin (a1 + (M 8 11 0)) 240) (some (jx_r M 8 40 (a1 + (M 8 11 0)), M))
def F_X6_figure (a1 : Int32) (a2 : Int32) (a3 : Int32) (a4 : Int32) (M : jx_M) : Option (Int32 × jx_M) :=
  jbd (F_X6_codeAt a1 a2 M) (fun r_1 M_1 => jlet (r_1 - 48) (fun x5_1 => jbd (F_X6_in x5_1.toInt64 a3.toInt64 a4.toInt64 M_1) (fun r_2 M_2 => if r_2 = 0 then jlet (jx_p M_2 8 11 ((M_2 8 11 0) + 0)) (fun M_3 => if r_2 = 0 then some ((-9), M_3) else some (x5_1, M_3)) else jlet (jx_p M_2 8 11 ((M_2 8 11 0) + 1)) (fun M_4 => if r_2 = 0 then some ((-9), M_4) else some (x5_1, M_4)))))
def F_X6_readsPerson (a1 : Int32) (a2 : Int32) (M : jx_M) : Option (Int32 × jx_M) :=
  if (M 8 13 0) = 6 then some (0, M) else jbd (F_X6_codeAt a1 a2 M) (fun r_1 M_1 => if r_1 = 59 then jlet (jx_p M_1 8 11 ((M_1 8 11 0) + 1)) (fun M_2 => jbd (F_X6_codeAt a1 a2 M_2) (fun r_2 M_3 => if r_2 = 100 then jlet (jx_p M_3 8 11 ((M_3 8 11 0) + 1)) (fun M_4 => jbd (F_X6_figure a1 a2 0 ((M_4 8 12 0) - 1) M_4) (fun r_3 M_5 => jlet (fun (v_1 : Int32) (M_6 : jx_M) => jlet (fun (v_2 : Int32) (M_7 : jx_M) => jlet (fun (v_3 : Int32) (M_8 : jx_M) => if 0 ≤ v_3 then jlet (fun (v_4 : Int32) (M_9 : jx_M) => jck (jin (M_8 8 13 0) 6) (jlet (jx_w M_9 8 14 (M_8 8 13 0) v_4) (fun M_10 => jck (jin (M_10 8 13 0) 6) (jlet (jx_w M_10 8 15 (M_10 8 13 0) r_3) (fun M_11 => jck (jin (M_11 8 13 0) 6) (jlet (jx_w M_11 8 16 (M_11 8 13 0) v_1) (fun M_12 => jck (jin (M_12 8 13 0) 6) (jlet (jx_w M_12 8 17 (M_12 8 13 0) v_2) (fun M_13 => jck (jin (M_13 8 13 0) 6) (jlet (jx_w M_13 8 18 (M_13 8 13 0) v_3) (fun M_14 => jlet (jx_p M_14 8 13 ((M_14 8 13 0) + 1)) (fun M_15 => some (1, M_15))))))))))))) (fun j_4 => if r_2 = 100 then j_4 0 M_8 else if r_2 = 104 then j_4 1 M_8 else j_4 2 M_8) else some (0, M_8)) (fun j_3 => if 0 ≤ v_2 then jbd (F_X6_figure a1 a2 1 9 M_7) (fun r_4 M_16 => j_3 r_4 M_16) else j_3 (-9) M_7)) (fun j_2 => if 0 ≤ v_1 then jbd (F_X6_figure a1 a2 1 9 M_6) (fun r_5 M_17 => j_2 r_5 M_17) else j_2 (-9) M_6)) (fun j_1 => if 0 ≤ r_3 then jbd (F_X6_figure a1 a2 0 9 M_5) (fun r_6 M_18 => j_1 r_6 M_18) else j_1 (-9) M_5))) else if r_2 = 104 then jlet (jx_p M_3 8 11 ((M_3 8 11 0) + 1)) (fun M_19 => jbd (F_X6_figure a1 a2 0 ((M_19 8 12 0) - 1) M_19) (fun r_7 M_20 => jlet (fun (v_5 : Int32) (M_21 : jx_M) => jlet (fun (v_6 : Int32) (M_22 : jx_M) => jlet (fun (v_7 : Int32) (M_23 : jx_M) => if 0 ≤ v_7 then jlet (fun (v_8 : Int32) (M_24 : jx_M) => jck (jin (M_23 8 13 0) 6) (jlet (jx_w M_24 8 14 (M_23 8 13 0) v_8) (fun M_25 => jck (jin (M_25 8 13 0) 6) (jlet (jx_w M_25 8 15 (M_25 8 13 0) r_7) (fun M_26 => jck (jin (M_26 8 13 0) 6) (jlet (jx_w M_26 8 16 (M_26 8 13 0) v_5) (fun M_27 => jck (jin (M_27 8 13 0) 6) (jlet (jx_w M_27 8 17 (M_27 8 13 0) v_6) (fun M_28 => jck (jin (M_28 8 13 0) 6) (jlet (jx_w M_28 8 18 (M_28 8 13 0) v_7) (fun M_29 => jlet (jx_p M_29 8 13 ((M_29 8 13 0) + 1)) (fun M_30 => some (1, M_30))))))))))))) (fun j_8 => if r_2 = 100 then j_8 0 M_23 else if r_2 = 104 then j_8 1 M_23 else j_8 2 M_23) else some (0, M_23)) (fun j_7 => if 0 ≤ v_6 then jbd (F_X6_figure a1 a2 1 9 M_22) (fun r_8 M_31 => j_7 r_8 M_31) else j_7 (-9) M_22)) (fun j_6 => if 0 ≤ v_5 then jbd (F_X6_figure a1 a2 1 9 M_21) (fun r_9 M_32 => j_6 r_9 M_32) else j_6 (-9) M_21)) (fun j_5 => if 0 ≤ r_7 then jbd (F_X6_figure a1 a2 0 9 M_20) (fun r_10 M_33 => j_5 r_10 M_33) else j_5 (-9) M_20))) else if r_2 = 101 then jlet (jx_p M_3 8 11 ((M_3 8 11 0) + 1)) (fun M_34 => jbd (F_X6_figure a1 a2 0 ((M_34 8 12 0) - 1) M_34) (fun r_11 M_35 => jlet (fun (v_9 : Int32) (M_36 : jx_M) => jlet (fun (v_10 : Int32) (M_37 : jx_M) => jlet (fun (v_11 : Int32) (M_38 : jx_M) => if 0 ≤ v_11 then jlet (fun (v_12 : Int32) (M_39 : jx_M) => jck (jin (M_38 8 13 0) 6) (jlet (jx_w M_39 8 14 (M_38 8 13 0) v_12) (fun M_40 => jck (jin (M_40 8 13 0) 6) (jlet (jx_w M_40 8 15 (M_40 8 13 0) r_11) (fun M_41 => jck (jin (M_41 8 13 0) 6) (jlet (jx_w M_41 8 16 (M_41 8 13 0) v_9) (fun M_42 => jck (jin (M_42 8 13 0) 6) (jlet (jx_w M_42 8 17 (M_42 8 13 0) v_10) (fun M_43 => jck (jin (M_43 8 13 0) 6) (jlet (jx_w M_43 8 18 (M_43 8 13 0) v_11) (fun M_44 => jlet (jx_p M_44 8 13 ((M_44 8 13 0) + 1)) (fun M_45 => some (1, M_45))))))))))))) (fun j_12 => if r_2 = 100 then j_12 0 M_38 else if r_2 = 104 then j_12 1 M_38 else j_12 2 M_38) else some (0, M_38)) (fun j_11 => if 0 ≤ v_10 then jbd (F_X6_figure a1 a2 1 9 M_37) (fun r_12 M_46 => j_11 r_12 M_46) else j_11 (-9) M_37)) (fun j_10 => if 0 ≤ v_9 then jbd (F_X6_figure a1 a2 1 9 M_36) (fun r_13 M_47 => j_10 r_13 M_47) else j_10 (-9) M_36)) (fun j_9 => if 0 ≤ r_11 then jbd (F_X6_figure a1 a2 0 9 M_35) (fun r_14 M_48 => j_9 r_14 M_48) else j_9 (-9) M_35))) else some (0, M_3))) else some (0, M_1))
def L_X6_readsLand_79 (y1 : Int32) (y2 : Int32) (k : Int32 → jx_M → Option (Int32 × jx_M)) : Nat → Int32 → jx_M → Option (Int32 × jx_M)
  | 0, _, _ => none
  | n + 1, z3, M => if z3 = 0 then k z3 M else if (M 8 13 0) < 2 then jbd (F_X6_readsPerson y1 y2 M) (fun r_2 M_6 => L_X6_readsLand_79 y1 y2 k n r_2 M_6) else if y2 ≤ (M 8 11 0) then k z3 M else jbd (F_X6_readsPerson y1 y2 M) (fun r_3 M_7 => L_X6_readsLand_79 y1 y2 k n r_3 M_7)
def F_X6_readsLand (a1 : Int32) (a2 : Int32) (M : jx_M) : Option (Int32 × jx_M) :=
  jlet (jx_p M 8 11 0) (fun M_1 => jlet (jx_p M_1 8 13 0) (fun M_2 => jbd (F_X6_codeAt a1 a2 M_2) (fun r_1 M_3 => if r_1 = 99 then jlet (jx_p M_3 8 11 ((M_3 8 11 0) + 1)) (fun M_10 => jbd (F_X6_figure a1 a2 1 4 M_10) (fun r_4 M_11 => jlet (jx_p M_11 8 12 r_4) (fun M_12 => if (M_12 8 12 0) ≤ 0 then L_X6_readsLand_79 a1 a2 (fun x3_3 M_13 => jck (jin x3_3 2) (some (x3_3, M_13))) jfu 0 M_12 else L_X6_readsLand_79 a1 a2 (fun x3_4 M_14 => jck (jin x3_4 2) (some (x3_4, M_14))) jfu 1 M_12))) else jlet (jx_p M_3 8 11 ((M_3 8 11 0) + 0)) (fun M_4 => jlet (jx_p M_4 8 12 (-9)) (fun M_5 => if (M_5 8 12 0) ≤ 0 then L_X6_readsLand_79 a1 a2 (fun x3_1 M_8 => jck (jin x3_1 2) (some (x3_1, M_8))) jfu 0 M_5 else L_X6_readsLand_79 a1 a2 (fun x3_2 M_9 => jck (jin x3_2 2) (some (x3_2, M_9))) jfu 1 M_5)))))
def F_X6_isBeyond (a0 : Int32) (a1 : Int64) (a3 : Int32) (M : jx_M) : Option (Int32 × jx_M) :=
  if a0 < 0 then some (1, M) else if (lg_cmp a1 0) < 0 then some (1, M) else if (lg_cmp (a0.toInt64 + a1) a3.toInt64) ≤ 0 then some (0, M) else some (1, M)
def F_X6_cellsBarred (a1 : Int32) (a2 : Int32) (a3 : Int32) (a4 : Int64) (M : jx_M) : Option (Int32 × jx_M) :=
  jck (jin a1 4) (if (jx_r M 8 38 a1) < 0 then jck (jin a1 4) (if 0 ≤ (jx_r M 8 38 a1) then if 0 ≤ (lg_cmp a4 0) then jck (jin a1 4) (jbd (F_X6_isBeyond a3 a4 (jx_r M 8 38 a1) M) (fun r_1 M_1 => if r_1 = 0 then some (0, M_1) else jbd (F_X6_failed 3 M_1) (fun r_2 M_2 => some (r_2, M_2)))) else jbd (F_X6_failed 4 M) (fun r_3 M_3 => some (r_3, M_3)) else jbd (F_X6_failed 1 M) (fun r_4 M_4 => some (r_4, M_4))) else jck (jin a1 4) (if (jx_r M 8 39 a1) = a2 then jck (jin a1 4) (if 0 ≤ (jx_r M 8 38 a1) then if 0 ≤ (lg_cmp a4 0) then jck (jin a1 4) (jbd (F_X6_isBeyond a3 a4 (jx_r M 8 38 a1) M) (fun r_5 M_5 => if r_5 = 0 then some (0, M_5) else jbd (F_X6_failed 3 M_5) (fun r_6 M_6 => some (r_6, M_6)))) else jbd (F_X6_failed 4 M) (fun r_7 M_7 => some (r_7, M_7)) else jbd (F_X6_failed 1 M) (fun r_8 M_8 => some (r_8, M_8))) else jbd (F_X6_failed 2 M) (fun r_9 M_9 => some (r_9, M_9))))
def F_X6_noSheet (a0 : Int32) (M : jx_M) : Option (Int32 × jx_M) :=
  jbd (F_X6_in a0.toInt64 0 3 M) (fun r_1 M_1 => if r_1 = 0 then some (1, M_1) else some (0, M_1))
def L_X6_land_98 (k : jx_M → Option (Int32 × jx_M)) : Nat → Int32 → jx_M → Option (Int32 × jx_M)
  | 0, _, _ => none
  | n + 1, z6, M => if (M 8 2 0) ≤ z6 then k M else jck (jin z6 6) (jck (jin z6 6) (jlet (jx_w M 8 3 z6 (jx_r M 8 14 z6)) (fun M_7 => jck (jin z6 6) (jck (jin z6 6) (jlet (jx_w M_7 8 4 z6 (jx_r M_7 8 15 z6)) (fun M_8 => jck (jin z6 6) (jck (jin z6 6) (jlet (jx_w M_8 8 5 z6 (jx_r M_8 8 16 z6)) (fun M_9 => jck (jin z6 6) (jck (jin z6 6) (jlet (jx_w M_9 8 6 z6 (jx_r M_9 8 17 z6)) (fun M_10 => jck (jin z6 6) (jck (jin z6 6) (jlet (jx_w M_10 8 7 z6 (jx_r M_10 8 18 z6)) (fun M_11 => jlet (z6 + 1) (fun x6_1 => L_X6_land_98 k n x6_1 M_11))))))))))))))))
def L_X6_land_186 (k : jx_M → Option (Int32 × jx_M)) : Nat → Int32 → jx_M → Option (Int32 × jx_M)
  | 0, _, _ => none
  | n + 1, z6, M => if 4 ≤ z6 then k M else jck (jin z6 4) (jlet (jx_w M 8 10 z6 40) (fun M_13 => jlet (z6 + 1) (fun x6_2 => L_X6_land_186 k n x6_2 M_13)))
def F_X6_land (a1 : Int32) (a2 : Int32) (a3 : Int32) (a4 : Int32) (M : jx_M) : Option (Int32 × jx_M) :=
  jbd (F_X6_noSheet a1 M) (fun r_1 M_1 => if r_1 = 0 then jbd (F_X6_in a2.toInt64 0 2 M_1) (fun r_2 M_2 => if r_2 = 0 then jbd (F_X6_refused (-2) M_2) (fun r_7 M_21 => some (r_7, M_21)) else jbd (F_X6_cellsBarred a1 a2 a3 a4.toInt64 M_2) (fun r_3 M_3 => if 0 ≤ r_3 then jbd (F_X6_readsLand ((60 * a1) + a3) a4 M_3) (fun r_4 M_4 => if r_4 = 0 then jbd (F_X6_refused ((-100) - (M_4 8 11 0)) M_4) (fun r_6 M_20 => some (r_6, M_20)) else jlet (jx_p M_4 8 1 (M_4 8 12 0)) (fun M_5 => jlet (jx_p M_5 8 2 (M_5 8 13 0)) (fun M_6 => L_X6_land_98 (fun M_12 => L_X6_land_186 (fun M_14 => jlet (jx_p M_14 8 8 0) (fun M_15 => jlet (jx_p M_15 8 9 0) (fun M_16 => jlet (jx_p M_16 8 19 0) (fun M_17 => jlet (jx_p M_17 8 34 0) (fun M_18 => jbd (F_X6_refused (M_18 8 2 0) M_18) (fun r_5 M_19 => some (r_5, M_19))))))) jfu 0 M_12) jfu 0 M_6))) else some (r_3, M_3))) else jbd (F_X6_refused (-1) M_1) (fun r_8 M_22 => some (r_8, M_22)))
def F_X6_sleepOf (a1 : Int32) (M : jx_M) : Option (Int32 × jx_M) :=
  jck (jin a1 6) (jlet (jx_r M 8 7 a1) (fun x2_1 => jck (jin a1 6) (if (jx_r M 8 3 a1) = 0 then some (x2_1, M) else jck (jin a1 6) (if (jx_r M 8 3 a1) = 1 then some (x2_1 + 2, M) else some (2 * (x2_1 + 2), M)))))
def F_X6_ofPerson (a1 : Int32) (a2 : Int32) (M : jx_M) : Option (Int32 × jx_M) :=
  jbd (F_X6_noPerson a1 M) (fun r_1 M_1 => if r_1 = 0 then if a2 = 0 then jck (jin a1 6) (some (jx_r M_1 8 3 a1, M_1)) else if a2 = 1 then jck (jin a1 6) (some (jx_r M_1 8 4 a1, M_1)) else if a2 = 2 then jck (jin a1 6) (some (jx_r M_1 8 5 a1, M_1)) else if a2 = 3 then jck (jin a1 6) (some (jx_r M_1 8 6 a1, M_1)) else if a2 = 4 then jck (jin a1 6) (some (jx_r M_1 8 7 a1, M_1)) else if a2 = 5 then jbd (F_X6_sleepOf a1 M_1) (fun r_2 M_2 => some (r_2, M_2)) else if a2 = 6 then jbd (F_X6_isIn (M_1 8 8 0) a1 M_1) (fun r_3 M_3 => if r_3 = 0 then some (0, M_3) else some (1, M_3)) else some ((-2), M_1) else some ((-1), M_1))
def F_X6_law (a1 : Int32) (M : jx_M) : Option (Int32 × jx_M) :=
  jbd (F_X6_in a1.toInt64 0 2 M) (fun r_1 M_1 => if r_1 = 0 then some ((-2), M_1) else if (M_1 8 2 0) = 0 then some ((-3), M_1) else jlet (M_1 8 9 0) (fun x2_1 => jlet (jx_p M_1 8 9 a1) (fun M_2 => some (x2_1, M_2))))
def F_X6_refuse (a1 : Int32) (a2 : Int32) (M : jx_M) : Option (Int32 × jx_M) :=
  jbd (F_X6_noPerson a1 M) (fun r_1 M_1 => if r_1 = 0 then jbd (F_X6_isIn (M_1 8 8 0) a1 M_1) (fun r_2 M_2 => if a2 = 0 then jlet (jx_p M_2 8 8 ((M_2 8 8 0) &&& ((1 <<< (a1 &&& 31)) ^^^ (-1)))) (fun M_3 => if r_2 = a2 then some (0, M_3) else some (1, M_3)) else jlet (jx_p M_2 8 8 ((M_2 8 8 0) ||| (1 <<< (a1 &&& 31)))) (fun M_4 => if r_2 = a2 then some (0, M_4) else some (1, M_4))) else some ((-1), M_1))
def F_X6_will (a1 : Int32) (a2 : Int32) (a3 : Int32) (M : jx_M) : Option (Int32 × jx_M) :=
  jbd (F_X6_noPost a1 M) (fun r_1 M_1 => if r_1 = 0 then jbd (F_X6_noPerson a2 M_1) (fun r_2 M_2 => if r_2 = 0 then jbd (F_X6_isDecade a3 M_2) (fun r_3 M_3 => if r_3 = 0 then some ((-2), M_3) else if (M_3 8 19 0) = 6 then some ((-4), M_3) else jck (jin (M_3 8 19 0) 7) (jlet (jx_w M_3 8 20 (M_3 8 19 0) a1) (fun M_4 => jck (jin (M_4 8 19 0) 7) (jlet (jx_w M_4 8 21 (M_4 8 19 0) a2) (fun M_5 => jck (jin (M_5 8 19 0) 7) (jlet (jx_w M_5 8 22 (M_5 8 19 0) a3) (fun M_6 => jlet (jx_p M_6 8 19 ((M_6 8 19 0) + 1)) (fun M_7 => some ((M_7 8 19 0) - 1, M_7))))))))) else some ((-1), M_2)) else some ((-1), M_1))
def F_X6_burn (a1 : Int32) (M : jx_M) : Option (Int32 × jx_M) :=
  jbd (F_X6_in a1.toInt64 0 ((M 8 19 0).toInt64) M) (fun r_1 M_1 => if r_1 = 0 then some ((-2), M_1) else jlet (jx_p M_1 8 19 ((M_1 8 19 0) - a1)) (fun M_2 => some (M_2 8 19 0, M_2)))
def F_X6_giveUp (a1 : Int32) (a2 : Int32) (M : jx_M) : Option (Int32 × jx_M) :=
  jbd (F_X6_noPost a1 M) (fun r_1 M_1 => if r_1 = 0 then jbd (F_X6_in a2.toInt64 0 40 M_1) (fun r_2 M_2 => if r_2 = 0 then some ((-2), M_2) else jck (jin a1 4) (jlet (jx_r M_2 8 10 a1) (fun x3_1 => jck (jin a1 4) (jlet (jx_w M_2 8 10 a1 a2) (fun M_3 => some (x3_1, M_3)))))) else some ((-1), M_1))
def L_X6_begin_2 (k : jx_M → Option (Unit × jx_M)) : Nat → Int32 → jx_M → Option (Unit × jx_M)
  | 0, _, _ => none
  | n + 1, z1, M => if 6 ≤ z1 then k M else jck (jin z1 6) (jlet (jx_w M 8 23 z1 0) (fun M_1 => jck (jin z1 6) (jlet (jx_w M_1 8 24 z1 0) (fun M_2 => jck (jin z1 6) (jlet (jx_w M_2 8 26 z1 0) (fun M_3 => jlet (z1 + 1) (fun x1_1 => L_X6_begin_2 k n x1_1 M_3)))))))
def L_X6_begin_37 (k : jx_M → Option (Unit × jx_M)) : Nat → Int32 → jx_M → Option (Unit × jx_M)
  | 0, _, _ => none
  | n + 1, z1, M => if 4 ≤ z1 then k M else jck (jin z1 4) (jlet (jx_w M 8 27 z1 (-9)) (fun M_5 => jlet (z1 + 1) (fun x1_2 => L_X6_begin_37 k n x1_2 M_5)))
def F_X6_begin  (M : jx_M) : Option (Unit × jx_M) :=
  L_X6_begin_2 (fun M_4 => L_X6_begin_37 (fun M_6 => jlet (jx_p M_6 8 29 0) (fun M_7 => some ((), M_7))) jfu 0 M_4) jfu 0 M
def F_X6_mayLie (a1 : Int32) (M : jx_M) : Option (Int32 × jx_M) :=
  jck (jin a1 6) (if (jx_r M 8 23 a1) = 1 then jbd (F_X6_isIn (M 8 30 0) a1 M) (fun r_1 M_1 => if r_1 = 0 then some (0, M_1) else jbd (F_X6_isIn (M_1 8 8 0) a1 M_1) (fun r_2 M_2 => if r_2 = 0 then some (1, M_2) else some (0, M_2))) else some (0, M))
def F_X6_isRather (a1 : Int32) (a2 : Int32) (a3 : Int32) (M : jx_M) : Option (Int32 × jx_M) :=
  if (M 8 9 0) = 1 then jck (jin a1 6) (jck (jin a2 6) (if (jx_r M 8 24 a1) ≤ (jx_r M 8 24 a2) then some (0, M) else some (1, M))) else jck (jin a1 6) (if (jx_r M 8 4 a1) ≤ a3 then jck (jin a1 6) (jlet (a3 - (jx_r M 8 4 a1)) (fun x4_1 => jck (jin a2 6) (if (jx_r M 8 4 a2) ≤ a3 then jck (jin a2 6) (jlet (a3 - (jx_r M 8 4 a2)) (fun x5_1 => if (M 8 9 0) = 2 then if x5_1 ≤ x4_1 then some (0, M) else some (1, M) else some (0, M))) else jck (jin a2 6) (jlet ((jx_r M 8 4 a2) - a3) (fun x5_2 => if (M 8 9 0) = 2 then if x5_2 ≤ x4_1 then some (0, M) else some (1, M) else some (0, M)))))) else jck (jin a1 6) (jlet ((jx_r M 8 4 a1) - a3) (fun x4_2 => jck (jin a2 6) (if (jx_r M 8 4 a2) ≤ a3 then jck (jin a2 6) (jlet (a3 - (jx_r M 8 4 a2)) (fun x5_3 => if (M 8 9 0) = 2 then if x5_3 ≤ x4_2 then some (0, M) else some (1, M) else some (0, M))) else jck (jin a2 6) (jlet ((jx_r M 8 4 a2) - a3) (fun x5_4 => if (M 8 9 0) = 2 then if x5_4 ≤ x4_2 then some (0, M) else some (1, M) else some (0, M)))))))
def L_X6_lierAt_2 (y1 : Int32) (y2 : Int32) (k : jx_M → Option (Int32 × jx_M)) : Nat → Int32 → jx_M → Option (Int32 × jx_M)
  | 0, _, _ => none
  | n + 1, z3, M => if (M 8 19 0) ≤ z3 then k M else jck (jin z3 7) (if (jx_r M 8 20 z3) = y1 then jck (jin z3 7) (if (jx_r M 8 22 z3) = y2 then jck (jin z3 7) (jbd (F_X6_mayLie (jx_r M 8 21 z3) M) (fun r_1 M_1 => if r_1 = 0 then jlet (z3 + 1) (fun x3_3 => L_X6_lierAt_2 y1 y2 k n x3_3 M_1) else jck (jin z3 7) (some (jx_r M_1 8 21 z3, M_1)))) else jlet (z3 + 1) (fun x3_2 => L_X6_lierAt_2 y1 y2 k n x3_2 M)) else jlet (z3 + 1) (fun x3_1 => L_X6_lierAt_2 y1 y2 k n x3_1 M))
def L_X6_lierAt_62 (y1 : Int32) (k : Int32 → jx_M → Option (Int32 × jx_M)) : Nat → Int32 → Int32 → jx_M → Option (Int32 × jx_M)
  | 0, _, _, _ => none
  | n + 1, z3, z4, M => if (M 8 2 0) ≤ z4 then k z3 M else jbd (F_X6_mayLie z4 M) (fun r_2 M_3 => if r_2 = 0 then jlet (z4 + 1) (fun x4_1 => L_X6_lierAt_62 y1 k n z3 x4_1 M_3) else if z3 < 0 then jlet (z4 + 1) (fun x4_2 => L_X6_lierAt_62 y1 k n z4 x4_2 M_3) else jbd (F_X6_isRather z4 z3 y1 M_3) (fun r_3 M_4 => if r_3 = 0 then jlet (z4 + 1) (fun x4_3 => L_X6_lierAt_62 y1 k n z3 x4_3 M_4) else jlet (z4 + 1) (fun x4_4 => L_X6_lierAt_62 y1 k n z4 x4_4 M_4)))
def F_X6_lierAt (a1 : Int32) (a2 : Int32) (M : jx_M) : Option (Int32 × jx_M) :=
  L_X6_lierAt_2 a1 a2 (fun M_2 => L_X6_lierAt_62 a1 (fun x3_4 M_5 => some (x3_4, M_5)) jfu (-9) 0 M_2) jfu 0 M
def L_X6_wakeAll_10 (y1 : Int32) (k : jx_M → Option (Unit × jx_M)) : Nat → Int32 → jx_M → Option (Unit × jx_M)
  | 0, _, _ => none
  | n + 1, z2, M => if (M 8 1 0) ≤ z2 then k M else jck (jin z2 4) (jlet (jx_r M 8 27 z2) (fun x3_1 => if x3_1 < 0 then jlet (z2 + 1) (fun x2_1 => L_X6_wakeAll_10 y1 k n x2_1 M) else jck (jin x3_1 6) (if (jx_r M 8 25 x3_1) = y1 then jck (jin z2 4) (jlet (jx_w M 8 27 z2 (-9)) (fun M_3 => jck (jin x3_1 6) (jlet (jx_w M_3 8 23 x3_1 1) (fun M_4 => jlet (jx_p M_4 8 30 ((M_4 8 30 0) &&& ((1 <<< (x3_1 &&& 31)) ^^^ (-1)))) (fun M_5 => jlet (z2 + 1) (fun x2_3 => L_X6_wakeAll_10 y1 k n x2_3 M_5)))))) else jlet (z2 + 1) (fun x2_2 => L_X6_wakeAll_10 y1 k n x2_2 M))))
def F_X6_wakeAll (a1 : Int32) (M : jx_M) : Option (Unit × jx_M) :=
  jbd (F_X6_all M) (fun r_1 M_1 => jlet (jx_p M_1 8 30 r_1) (fun M_2 => L_X6_wakeAll_10 a1 (fun M_6 => some ((), M_6)) jfu 0 M_2))
def L_X6_goDecade_2 (y1 : Int32) (k : jx_M → Option (Unit × jx_M)) : Nat → Int32 → jx_M → Option (Unit × jx_M)
  | 0, _, _ => none
  | n + 1, z2, M => if (M 8 2 0) ≤ z2 then k M else jck (jin z2 6) (if (jx_r M 8 23 z2) = 1 then jck (jin z2 6) (jck (jin z2 6) (if (jx_r M 8 24 z2) < (jx_r M 8 6 z2) then jck (jin z2 6) (if (jx_r M 8 5 z2) = y1 then jck (jin z2 6) (jlet (jx_w M 8 23 z2 1) (fun M_4 => jlet (z2 + 1) (fun x2_4 => L_X6_goDecade_2 y1 k n x2_4 M_4))) else jck (jin z2 6) (jck (jin z2 6) (jlet (jx_w M 8 23 z2 (jx_r M 8 23 z2)) (fun M_3 => jlet (z2 + 1) (fun x2_3 => L_X6_goDecade_2 y1 k n x2_3 M_3))))) else jck (jin z2 6) (if (jx_r M 8 5 z2) = y1 then jck (jin z2 6) (jlet (jx_w M 8 23 z2 1) (fun M_6 => jlet (z2 + 1) (fun x2_6 => L_X6_goDecade_2 y1 k n x2_6 M_6))) else jck (jin z2 6) (jlet (jx_w M 8 23 z2 3) (fun M_5 => jlet (z2 + 1) (fun x2_5 => L_X6_goDecade_2 y1 k n x2_5 M_5)))))) else jck (jin z2 6) (if (jx_r M 8 5 z2) = y1 then jck (jin z2 6) (jlet (jx_w M 8 23 z2 1) (fun M_2 => jlet (z2 + 1) (fun x2_2 => L_X6_goDecade_2 y1 k n x2_2 M_2))) else jck (jin z2 6) (jck (jin z2 6) (jlet (jx_w M 8 23 z2 (jx_r M 8 23 z2)) (fun M_1 => jlet (z2 + 1) (fun x2_1 => L_X6_goDecade_2 y1 k n x2_1 M_1))))))
def L_X6_goDecade_93 (y1 : Int32) (k : jx_M → Option (Unit × jx_M)) : Nat → Int32 → jx_M → Option (Unit × jx_M)
  | 0, _, _ => none
  | n + 1, z2, M => if (M 8 1 0) ≤ z2 then k M else jck (jin z2 4) (if 0 ≤ (jx_r M 8 27 z2) then jlet (z2 + 1) (fun x2_7 => L_X6_goDecade_93 y1 k n x2_7 M) else jck (jin z2 4) (if (jx_r M 8 10 z2) ≤ y1 then jlet (z2 + 1) (fun x2_8 => L_X6_goDecade_93 y1 k n x2_8 M) else jbd (F_X6_lierAt z2 y1 M) (fun r_2 M_10 => jck (jin z2 4) (jlet (jx_w M_10 8 27 z2 r_2) (fun M_11 => if 0 ≤ r_2 then jlet (jx_p M_11 8 28 ((M_11 8 28 0) ||| 0)) (fun M_12 => if r_2 < 0 then jlet (z2 + 1) (fun x2_9 => L_X6_goDecade_93 y1 k n x2_9 M_12) else jck (jin r_2 6) (jlet (jx_w M_12 8 23 r_2 2) (fun M_13 => jbd (F_X6_sleepOf r_2 M_13) (fun r_3 M_14 => jck (jin r_2 6) (jlet (jx_w M_14 8 25 r_2 (y1 + r_3)) (fun M_15 => jlet (z2 + 1) (fun x2_10 => L_X6_goDecade_93 y1 k n x2_10 M_15))))))) else jlet (jx_p M_11 8 28 ((M_11 8 28 0) ||| (1 <<< (z2 &&& 31)))) (fun M_16 => if r_2 < 0 then jlet (z2 + 1) (fun x2_11 => L_X6_goDecade_93 y1 k n x2_11 M_16) else jck (jin r_2 6) (jlet (jx_w M_16 8 23 r_2 2) (fun M_17 => jbd (F_X6_sleepOf r_2 M_17) (fun r_4 M_18 => jck (jin r_2 6) (jlet (jx_w M_18 8 25 r_2 (y1 + r_4)) (fun M_19 => jlet (z2 + 1) (fun x2_12 => L_X6_goDecade_93 y1 k n x2_12 M_19))))))))))))
def L_X6_goDecade_202 (k : jx_M → Option (Unit × jx_M)) : Nat → Int32 → jx_M → Option (Unit × jx_M)
  | 0, _, _ => none
  | n + 1, z2, M => if (M 8 2 0) ≤ z2 then k M else jck (jin z2 6) (jck (jin z2 6) (if (jx_r M 8 23 z2) = 2 then jck (jin z2 6) (jlet (jx_w M 8 26 z2 ((jx_r M 8 26 z2) + 1)) (fun M_24 => jlet (z2 + 1) (fun x2_14 => L_X6_goDecade_202 k n x2_14 M_24))) else jck (jin z2 6) (jlet (jx_w M 8 26 z2 ((jx_r M 8 26 z2) + 0)) (fun M_23 => jlet (z2 + 1) (fun x2_13 => L_X6_goDecade_202 k n x2_13 M_23)))))
def F_X6_goDecade (a1 : Int32) (M : jx_M) : Option (Unit × jx_M) :=
  L_X6_goDecade_2 a1 (fun M_7 => jbd (F_X6_wakeAll a1 M_7) (fun r_1 M_8 => jlet (jx_p M_8 8 28 0) (fun M_9 => L_X6_goDecade_93 a1 (fun M_20 => jbd (F_X6_bits (M_20 8 28 0) M_20) (fun r_5 M_21 => jlet (jx_p M_21 8 29 ((M_20 8 29 0) + r_5)) (fun M_22 => L_X6_goDecade_202 (fun M_25 => some ((), M_25)) jfu 0 M_22))) jfu 0 M_9))) jfu 0 M
def L_X6_endDecade_2 (k : jx_M → Option (Unit × jx_M)) : Nat → Int32 → jx_M → Option (Unit × jx_M)
  | 0, _, _ => none
  | n + 1, z1, M => if (M 8 2 0) ≤ z1 then k M else jck (jin z1 6) (jck (jin z1 6) (if (jx_r M 8 23 z1) = 1 then jck (jin z1 6) (jlet (jx_w M 8 24 z1 ((jx_r M 8 24 z1) + 1)) (fun M_2 => jlet (z1 + 1) (fun x1_2 => L_X6_endDecade_2 k n x1_2 M_2))) else jck (jin z1 6) (jlet (jx_w M 8 24 z1 ((jx_r M 8 24 z1) + 0)) (fun M_1 => jlet (z1 + 1) (fun x1_1 => L_X6_endDecade_2 k n x1_1 M_1)))))
def F_X6_endDecade  (M : jx_M) : Option (Unit × jx_M) :=
  L_X6_endDecade_2 (fun M_3 => some ((), M_3)) jfu 0 M
def L_X6_goTo_11 (y1 : Int32) (k : jx_M → Option (Unit × jx_M)) : Nat → Int32 → jx_M → Option (Unit × jx_M)
  | 0, _, _ => none
  | n + 1, z2, M => if y1 < z2 then k M else jbd (F_X6_endDecade M) (fun r_3 M_3 => jbd (F_X6_goDecade z2 M_3) (fun r_4 M_4 => jlet (z2 + 1) (fun x2_1 => L_X6_goTo_11 y1 k n x2_1 M_4)))
def F_X6_goTo (a1 : Int32) (M : jx_M) : Option (Unit × jx_M) :=
  jbd (F_X6_begin M) (fun r_1 M_1 => jbd (F_X6_goDecade 0 M_1) (fun r_2 M_2 => L_X6_goTo_11 a1 (fun M_5 => some ((), M_5)) jfu 1 M_2))
def F_X6_refusedFor (a1 : Int32) (M : jx_M) : Option (Int32 × jx_M) :=
  jbd (F_X6_isDecade a1 M) (fun r_1 M_1 => if r_1 = 0 then some ((-2), M_1) else if (M_1 8 2 0) = 0 then some ((-3), M_1) else some (0, M_1))
def F_X6_guard (a1 : Int32) (a2 : Int32) (M : jx_M) : Option (Int32 × jx_M) :=
  jbd (F_X6_noPost a1 M) (fun r_1 M_1 => if r_1 = 0 then jbd (F_X6_isDecade a2 M_1) (fun r_2 M_2 => if r_2 = 0 then some ((-2), M_2) else jbd (F_X6_goTo a2 M_2) (fun r_3 M_3 => jck (jin a1 4) (some (jx_r M_3 8 27 a1, M_3)))) else some ((-1), M_1))
def F_X6_how (a1 : Int32) (a2 : Int32) (M : jx_M) : Option (Int32 × jx_M) :=
  jbd (F_X6_noPerson a1 M) (fun r_1 M_1 => if r_1 = 0 then jbd (F_X6_isDecade a2 M_1) (fun r_2 M_2 => if r_2 = 0 then some ((-2), M_2) else jbd (F_X6_goTo a2 M_2) (fun r_3 M_3 => jck (jin a1 6) (some (jx_r M_3 8 23 a1, M_3)))) else some ((-1), M_1))
def F_X6_age (a1 : Int32) (a2 : Int32) (M : jx_M) : Option (Int32 × jx_M) :=
  jbd (F_X6_noPerson a1 M) (fun r_1 M_1 => if r_1 = 0 then jbd (F_X6_isDecade a2 M_1) (fun r_2 M_2 => if r_2 = 0 then some ((-2), M_2) else jbd (F_X6_goTo a2 M_2) (fun r_3 M_3 => jbd (F_X6_endDecade M_3) (fun r_4 M_4 => jck (jin a1 6) (some (jx_r M_4 8 24 a1, M_4))))) else some ((-1), M_1))
def F_X6_empty (a1 : Int32) (M : jx_M) : Option (Int32 × jx_M) :=
  jbd (F_X6_refusedFor a1 M) (fun r_1 M_1 => if 0 ≤ r_1 then jbd (F_X6_goTo a1 M_1) (fun r_2 M_2 => some (M_2 8 28 0, M_2)) else some (r_1, M_1))
def F_X6_empties (a1 : Int32) (M : jx_M) : Option (Int32 × jx_M) :=
  jbd (F_X6_refusedFor a1 M) (fun r_1 M_1 => if 0 ≤ r_1 then jbd (F_X6_goTo a1 M_1) (fun r_2 M_2 => some (M_2 8 29 0, M_2)) else some (r_1, M_1))
def L_X6_awake_22 (k : Int32 → jx_M → Option (Int32 × jx_M)) : Nat → Int32 → Int32 → jx_M → Option (Int32 × jx_M)
  | 0, _, _, _ => none
  | n + 1, z3, z4, M => if (M 8 2 0) ≤ z4 then k z3 M else jck (jin z4 6) (if (jx_r M 8 23 z4) = 1 then jlet (z3 ||| (1 <<< (z4 &&& 31))) (fun x3_2 => jlet (z4 + 1) (fun x4_2 => L_X6_awake_22 k n x3_2 x4_2 M)) else jlet (z3 ||| 0) (fun x3_1 => jlet (z4 + 1) (fun x4_1 => L_X6_awake_22 k n x3_1 x4_1 M)))
def F_X6_awake (a1 : Int32) (M : jx_M) : Option (Int32 × jx_M) :=
  jbd (F_X6_refusedFor a1 M) (fun r_1 M_1 => if 0 ≤ r_1 then jbd (F_X6_goTo a1 M_1) (fun r_2 M_2 => L_X6_awake_22 (fun x3_3 M_3 => some (x3_3, M_3)) jfu 0 0 M_2) else some (r_1, M_1))
def F_X6_slept (a1 : Int32) (a2 : Int32) (M : jx_M) : Option (Int32 × jx_M) :=
  jbd (F_X6_noPerson a1 M) (fun r_1 M_1 => if r_1 = 0 then jbd (F_X6_isDecade a2 M_1) (fun r_2 M_2 => if r_2 = 0 then some ((-2), M_2) else jbd (F_X6_goTo a2 M_2) (fun r_3 M_3 => jck (jin a1 6) (some (jx_r M_3 8 26 a1, M_3)))) else some ((-1), M_1))
def F_X6_noneEmpty (a1 : Int32) (M : jx_M) : Option (Int32 × jx_M) :=
  jbd (F_X6_goTo a1 M) (fun r_1 M_1 => if (M_1 8 29 0) = 0 then some (1, M_1) else some (0, M_1))
def L_X6_fewest_24 (y1 : Int32) (y3 : Int32) (k : Int32 → jx_M → Option (Int32 × jx_M)) : Nat → Int32 → Int32 → jx_M → Option (Int32 × jx_M)
  | 0, _, _, _ => none
  | n + 1, z4, z5, M => jbd (F_X6_all M) (fun r_2 M_2 => if r_2 < z5 then k z4 M_2 else if z4 < 0 then jbd (F_X6_all M_2) (fun r_3 M_3 => jlet (jx_p M_3 8 8 (r_3 &&& (z5 ^^^ (-1)))) (fun M_4 => jbd (F_X6_noneEmpty y1 M_4) (fun r_4 M_5 => if r_4 = 0 then jlet (z5 + 1) (fun x5_1 => L_X6_fewest_24 y1 y3 k n z4 x5_1 M_5) else jlet (z5 + 1) (fun x5_2 => L_X6_fewest_24 y1 y3 k n z5 x5_2 M_5)))) else jbd (F_X6_bits z5 M_2) (fun r_5 M_6 => jbd (F_X6_bits z4 M_6) (fun r_6 M_7 => if r_6 ≤ r_5 then jlet (z5 + 1) (fun x5_3 => L_X6_fewest_24 y1 y3 k n z4 x5_3 M_7) else jbd (F_X6_all M_7) (fun r_7 M_8 => jlet (jx_p M_8 8 8 (r_7 &&& (z5 ^^^ (-1)))) (fun M_9 => jbd (F_X6_noneEmpty y1 M_9) (fun r_8 M_10 => if r_8 = 0 then jlet (z5 + 1) (fun x5_4 => L_X6_fewest_24 y1 y3 k n z4 x5_4 M_10) else jlet (z5 + 1) (fun x5_5 => L_X6_fewest_24 y1 y3 k n z5 x5_5 M_10)))))))
def F_X6_fewest (a1 : Int32) (M : jx_M) : Option (Int32 × jx_M) :=
  jbd (F_X6_refusedFor a1 M) (fun r_1 M_1 => if 0 ≤ r_1 then jlet (M_1 8 8 0) (fun x3_1 => L_X6_fewest_24 a1 x3_1 (fun x4_1 M_11 => jlet (jx_p M_11 8 8 x3_1) (fun M_12 => some (x4_1, M_12))) jfu (-9) 0 M_1) else some (r_1, M_1))
def F_X6_allEmpties  (M : jx_M) : Option (Int32 × jx_M) :=
  jbd (F_X6_goTo 39 M) (fun r_1 M_1 => some (M_1 8 29 0, M_1))
def L_X6_help_52 (y1 : Int32) (y4 : Int32) (k : Int32 → Int32 → jx_M → Option (Int32 × jx_M)) : Nat → Int32 → Int32 → Int32 → jx_M → Option (Int32 × jx_M)
  | 0, _, _, _, _ => none
  | n + 1, z2, z3, z5, M => if (((M 8 1 0) * (M 8 2 0)) * 40) ≤ z5 then k z2 z3 M else jck (!decide ((M 8 2 0) = 0)) (jck (jin y4 7) (jlet (jx_w M 8 20 y4 ((z5 / 40) / (M 8 2 0))) (fun M_4 => jck (!decide ((M_4 8 2 0) = 0)) (jck (jin y4 7) (jlet (jx_w M_4 8 21 y4 ((z5 / 40) - (z5 / 40) / (M_4 8 2 0) * (M_4 8 2 0))) (fun M_5 => jck (jin y4 7) (jlet (jx_w M_5 8 22 y4 (z5 - z5 / 40 * 40)) (fun M_6 => jbd (F_X6_allEmpties M_6) (fun r_3 M_7 => if z3 ≤ r_3 then if z3 ≤ r_3 then jlet (z5 + 1) (fun x5_1 => L_X6_help_52 y1 y4 k n z2 z3 x5_1 M_7) else jlet (z5 + 1) (fun x5_2 => L_X6_help_52 y1 y4 k n z2 r_3 x5_2 M_7) else jck (jin y4 7) (jck (jin y4 7) (jck (jin y4 7) (jlet (((1000 * (jx_r M_7 8 20 y4)) + (100 * (jx_r M_7 8 21 y4))) + (jx_r M_7 8 22 y4)) (fun x2_1 => if z3 ≤ r_3 then jlet (z5 + 1) (fun x5_3 => L_X6_help_52 y1 y4 k n x2_1 z3 x5_3 M_7) else jlet (z5 + 1) (fun x5_4 => L_X6_help_52 y1 y4 k n x2_1 r_3 x5_4 M_7))))))))))))))
def F_X6_help (a1 : Int32) (M : jx_M) : Option (Int32 × jx_M) :=
  jbd (F_X6_in a1.toInt64 0 1 M) (fun r_1 M_1 => if r_1 = 0 then some ((-2), M_1) else if (M_1 8 2 0) = 0 then some ((-3), M_1) else jbd (F_X6_allEmpties M_1) (fun r_2 M_2 => jlet (jx_p M_2 8 19 ((M_2 8 19 0) + 1)) (fun M_3 => jlet ((M_3 8 19 0) - 1) (fun x4_1 => L_X6_help_52 a1 x4_1 (fun x2_2 x3_1 M_8 => jlet (jx_p M_8 8 19 ((M_8 8 19 0) - 1)) (fun M_9 => if a1 = 0 then some (x2_2, M_9) else some (x3_1, M_9))) jfu (-9) r_2 0 M_3))))
def L_X6_emptiesBy_8 (y1 : Int32) (y2 : Int32) (y3 : Int32) (k : jx_M → Option (Int32 × jx_M)) : Nat → Int32 → jx_M → Option (Int32 × jx_M)
  | 0, _, _ => none
  | n + 1, z4, M => if y3 ≤ z4 then k M else jck (jin z4 7) (jck (jin z4 6) (jlet (jx_w M 8 31 z4 (jx_r M 8 20 z4)) (fun M_1 => jck (jin z4 7) (jck (jin z4 6) (jlet (jx_w M_1 8 32 z4 (jx_r M_1 8 21 z4)) (fun M_2 => jck (jin z4 7) (jck (jin z4 6) (jlet (jx_w M_2 8 33 z4 (jx_r M_2 8 22 z4)) (fun M_3 => jlet (z4 + 1) (fun x4_1 => L_X6_emptiesBy_8 y1 y2 y3 k n x4_1 M_3))))))))))
def L_X6_emptiesBy_65 (y1 : Int32) (y2 : Int32) (y3 : Int32) (k : jx_M → Option (Int32 × jx_M)) : Nat → Int32 → jx_M → Option (Int32 × jx_M)
  | 0, _, _ => none
  | n + 1, z4, M => if y2 ≤ z4 then k M else jck (jin (y1 + (3 * z4)) 240) (jck (jin z4 7) (jlet (jx_w M 8 20 z4 (jx_r M 8 40 (y1 + (3 * z4)))) (fun M_5 => jck (jin ((y1 + (3 * z4)) + 1) 240) (jck (jin z4 7) (jlet (jx_w M_5 8 21 z4 (jx_r M_5 8 40 ((y1 + (3 * z4)) + 1))) (fun M_6 => jck (jin ((y1 + (3 * z4)) + 2) 240) (jck (jin z4 7) (jlet (jx_w M_6 8 22 z4 (jx_r M_6 8 40 ((y1 + (3 * z4)) + 2))) (fun M_7 => jlet (z4 + 1) (fun x4_2 => L_X6_emptiesBy_65 y1 y2 y3 k n x4_2 M_7))))))))))
def L_X6_emptiesBy_149 (y3 : Int32) (y4 : Int32) (k : jx_M → Option (Int32 × jx_M)) : Nat → Int32 → jx_M → Option (Int32 × jx_M)
  | 0, _, _ => none
  | n + 1, z5, M => if y3 ≤ z5 then k M else jck (jin z5 6) (jck (jin z5 7) (jlet (jx_w M 8 20 z5 (jx_r M 8 31 z5)) (fun M_11 => jck (jin z5 6) (jck (jin z5 7) (jlet (jx_w M_11 8 21 z5 (jx_r M_11 8 32 z5)) (fun M_12 => jck (jin z5 6) (jck (jin z5 7) (jlet (jx_w M_12 8 22 z5 (jx_r M_12 8 33 z5)) (fun M_13 => jlet (z5 + 1) (fun x5_1 => L_X6_emptiesBy_149 y3 y4 k n x5_1 M_13))))))))))
def F_X6_emptiesBy (a1 : Int32) (a2 : Int32) (M : jx_M) : Option (Int32 × jx_M) :=
  jlet (M 8 19 0) (fun x3_1 => L_X6_emptiesBy_8 a1 a2 x3_1 (fun M_4 => L_X6_emptiesBy_65 a1 a2 x3_1 (fun M_8 => jlet (jx_p M_8 8 19 a2) (fun M_9 => jbd (F_X6_allEmpties M_9) (fun r_1 M_10 => L_X6_emptiesBy_149 x3_1 r_1 (fun M_14 => jlet (jx_p M_14 8 19 x3_1) (fun M_15 => some (r_1, M_15))) jfu 0 M_10))) jfu 0 M_4) jfu 0 M)
def L_X6_wills_94 (y4 : Int32) (y6 : Int32) (k : jx_M → Option (Int32 × jx_M)) : Nat → Int32 → jx_M → Option (Int32 × jx_M)
  | 0, _, _ => none
  | n + 1, z7, M => if y4 ≤ z7 then k M else jck (jin (y6 + (3 * z7)) 240) (jbd (F_X6_noPost (jx_r M 8 40 (y6 + (3 * z7))) M) (fun r_6 M_6 => if r_6 = 0 then jck (jin ((y6 + (3 * z7)) + 1) 240) (jbd (F_X6_noPerson (jx_r M_6 8 40 ((y6 + (3 * z7)) + 1)) M_6) (fun r_8 M_8 => if r_8 = 0 then jck (jin ((y6 + (3 * z7)) + 2) 240) (jbd (F_X6_isDecade (jx_r M_8 8 40 ((y6 + (3 * z7)) + 2)) M_8) (fun r_10 M_10 => if r_10 = 0 then jbd (F_X6_refused (-2) M_10) (fun r_11 M_11 => some (r_11, M_11)) else jlet (z7 + 1) (fun x7_1 => L_X6_wills_94 y4 y6 k n x7_1 M_10))) else jbd (F_X6_refused (-2) M_8) (fun r_9 M_9 => some (r_9, M_9)))) else jbd (F_X6_refused (-2) M_6) (fun r_7 M_7 => some (r_7, M_7))))
def F_X6_wills (a1 : Int32) (a2 : Int32) (a3 : Int32) (a4 : Int32) (M : jx_M) : Option (Int32 × jx_M) :=
  jbd (F_X6_noSheet a1 M) (fun r_1 M_1 => if r_1 = 0 then jbd (F_X6_in a2.toInt64 0 2 M_1) (fun r_2 M_2 => if r_2 = 0 then jbd (F_X6_refused (-2) M_2) (fun r_3 M_3 => some (r_3, M_3)) else jbd (F_X6_in a4.toInt64 0 6 M_2) (fun r_4 M_4 => if r_4 = 0 then jbd (F_X6_refused (-2) M_4) (fun r_15 M_16 => some (r_15, M_16)) else if (M_4 8 2 0) = 0 then jbd (F_X6_refused (-3) M_4) (fun r_14 M_15 => some (r_14, M_15)) else jbd (F_X6_cellsBarred a1 a2 a3 (3 * a4.toInt64) M_4) (fun r_5 M_5 => if 0 ≤ r_5 then jlet ((60 * a1) + a3) (fun x6_1 => L_X6_wills_94 a4 x6_1 (fun M_12 => jbd (F_X6_emptiesBy x6_1 a4 M_12) (fun r_12 M_13 => jbd (F_X6_refused r_12 M_13) (fun r_13 M_14 => some (r_13, M_14)))) jfu 0 M_5) else some (r_5, M_5)))) else jbd (F_X6_refused (-1) M_1) (fun r_16 M_17 => some (r_16, M_17)))
def F_X6_reading (a1 : Int32) (a2 : Int32) (a3 : Int32) (M : jx_M) : Option (Int32 × jx_M) :=
  jbd (F_X6_noPost a1 M) (fun r_1 M_1 => if r_1 = 0 then if a3 = (-9) then jbd (F_X6_isDecade a2 M_1) (fun r_2 M_2 => if r_2 = 0 then some ((-2), M_2) else if (M_2 8 34 0) = 8 then some ((-4), M_2) else jck (jin (M_2 8 34 0) 8) (jlet (jx_w M_2 8 35 (M_2 8 34 0) a1) (fun M_3 => jck (jin (M_3 8 34 0) 8) (jlet (jx_w M_3 8 36 (M_3 8 34 0) a2) (fun M_4 => jck (jin (M_4 8 34 0) 8) (jlet (jx_w M_4 8 37 (M_4 8 34 0) a3) (fun M_5 => jlet (jx_p M_5 8 34 ((M_5 8 34 0) + 1)) (fun M_6 => some ((M_6 8 34 0) - 1, M_6))))))))) else jbd (F_X6_noPerson a3 M_1) (fun r_3 M_7 => if r_3 = 0 then jbd (F_X6_isDecade a2 M_7) (fun r_4 M_8 => if r_4 = 0 then some ((-2), M_8) else if (M_8 8 34 0) = 8 then some ((-4), M_8) else jck (jin (M_8 8 34 0) 8) (jlet (jx_w M_8 8 35 (M_8 8 34 0) a1) (fun M_9 => jck (jin (M_9 8 34 0) 8) (jlet (jx_w M_9 8 36 (M_9 8 34 0) a2) (fun M_10 => jck (jin (M_10 8 34 0) 8) (jlet (jx_w M_10 8 37 (M_10 8 34 0) a3) (fun M_11 => jlet (jx_p M_11 8 34 ((M_11 8 34 0) + 1)) (fun M_12 => some ((M_12 8 34 0) - 1, M_12))))))))) else some ((-1), M_7)) else some ((-1), M_1))
def F_X6_back (a1 : Int32) (M : jx_M) : Option (Int32 × jx_M) :=
  jbd (F_X6_in a1.toInt64 0 ((M 8 34 0).toInt64) M) (fun r_1 M_1 => if r_1 = 0 then some ((-2), M_1) else jlet (jx_p M_1 8 34 ((M_1 8 34 0) - a1)) (fun M_2 => some (M_2 8 34 0, M_2)))
def L_X6_areSo_4 (k : Int32 → jx_M → Option (Int32 × jx_M)) : Nat → Int32 → Int32 → jx_M → Option (Int32 × jx_M)
  | 0, _, _, _ => none
  | n + 1, z1, z2, M => if (M 8 34 0) ≤ z2 then k z1 M else if z1 = 0 then k z1 M else jck (jin z2 8) (jbd (F_X6_goTo (jx_r M 8 36 z2) M) (fun r_1 M_1 => jck (jin z2 8) (jck (jin (jx_r M_1 8 35 z2) 4) (jck (jin z2 8) (if (jx_r M_1 8 27 (jx_r M_1 8 35 z2)) = (jx_r M_1 8 37 z2) then jlet (z2 + 1) (fun x2_2 => L_X6_areSo_4 k n 1 x2_2 M_1) else jlet (z2 + 1) (fun x2_1 => L_X6_areSo_4 k n 0 x2_1 M_1))))))
def F_X6_areSo  (M : jx_M) : Option (Int32 × jx_M) :=
  L_X6_areSo_4 (fun x1_1 M_2 => jck (jin x1_1 2) (some (x1_1, M_2))) jfu 1 0 M
def L_X6_laws_19 (y1 : Int32) (k : Int32 → jx_M → Option (Int32 × jx_M)) : Nat → Int32 → Int32 → jx_M → Option (Int32 × jx_M)
  | 0, _, _, _ => none
  | n + 1, z2, z3, M => if 3 ≤ z3 then k z2 M else jlet (jx_p M 8 9 z3) (fun M_1 => jbd (F_X6_areSo M_1) (fun r_1 M_2 => if r_1 = 0 then jlet (z2 ||| 0) (fun x2_1 => jlet (z3 + 1) (fun x3_1 => L_X6_laws_19 y1 k n x2_1 x3_1 M_2)) else jlet (z2 ||| (1 <<< (z3 &&& 31))) (fun x2_2 => jlet (z3 + 1) (fun x3_2 => L_X6_laws_19 y1 k n x2_2 x3_2 M_2))))
def F_X6_laws  (M : jx_M) : Option (Int32 × jx_M) :=
  if (M 8 2 0) = 0 then some ((-3), M) else jlet (M 8 9 0) (fun x1_1 => L_X6_laws_19 x1_1 (fun x2_3 M_3 => jlet (jx_p M_3 8 9 x1_1) (fun M_4 => some (x2_3, M_4))) jfu 0 0 M)
def L_X6_stubborn_19 (y1 : Int32) (k : Int32 → jx_M → Option (Int32 × jx_M)) : Nat → Int32 → Int32 → jx_M → Option (Int32 × jx_M)
  | 0, _, _, _ => none
  | n + 1, z2, z3, M => if (M 8 2 0) ≤ z3 then k z2 M else jlet (jx_p M 8 8 (y1 ||| (1 <<< (z3 &&& 31)))) (fun M_1 => jbd (F_X6_areSo M_1) (fun r_1 M_2 => if r_1 = 0 then jlet (z2 ||| 0) (fun x2_1 => jlet (z3 + 1) (fun x3_1 => L_X6_stubborn_19 y1 k n x2_1 x3_1 M_2)) else jlet (z2 ||| (1 <<< (z3 &&& 31))) (fun x2_2 => jlet (z3 + 1) (fun x3_2 => L_X6_stubborn_19 y1 k n x2_2 x3_2 M_2))))
def F_X6_stubborn  (M : jx_M) : Option (Int32 × jx_M) :=
  if (M 8 2 0) = 0 then some ((-3), M) else jlet (M 8 8 0) (fun x1_1 => L_X6_stubborn_19 x1_1 (fun x2_3 M_3 => jlet (jx_p M_3 8 8 x1_1) (fun M_4 => some (x2_3, M_4))) jfu 0 0 M)
def L_X6_named_59 (k : Int32 → jx_M → Option (Int32 × jx_M)) : Nat → Int32 → Int32 → jx_M → Option (Int32 × jx_M)
  | 0, _, _, _ => none
  | n + 1, z3, z4, M => if (M 8 2 0) ≤ z4 then k z3 M else jck (jin ((M 8 19 0) - 1) 7) (jlet (jx_w M 8 21 ((M 8 19 0) - 1) z4) (fun M_6 => jbd (F_X6_areSo M_6) (fun r_3 M_7 => if r_3 = 0 then jlet (z3 ||| 0) (fun x3_1 => jlet (z4 + 1) (fun x4_1 => L_X6_named_59 k n x3_1 x4_1 M_7)) else jlet (z3 ||| (1 <<< (z4 &&& 31))) (fun x3_2 => jlet (z4 + 1) (fun x4_2 => L_X6_named_59 k n x3_2 x4_2 M_7)))))
def F_X6_named (a1 : Int32) (a2 : Int32) (M : jx_M) : Option (Int32 × jx_M) :=
  jbd (F_X6_noPost a1 M) (fun r_1 M_1 => if r_1 = 0 then jbd (F_X6_isDecade a2 M_1) (fun r_2 M_2 => if r_2 = 0 then some ((-2), M_2) else jlet (jx_p M_2 8 19 ((M_2 8 19 0) + 1)) (fun M_3 => jck (jin ((M_3 8 19 0) - 1) 7) (jlet (jx_w M_3 8 20 ((M_3 8 19 0) - 1) a1) (fun M_4 => jck (jin ((M_4 8 19 0) - 1) 7) (jlet (jx_w M_4 8 22 ((M_4 8 19 0) - 1) a2) (fun M_5 => L_X6_named_59 (fun x3_3 M_8 => jlet (jx_p M_8 8 19 ((M_8 8 19 0) - 1)) (fun M_9 => some (x3_3, M_9))) jfu 0 0 M_5)))))) else some ((-1), M_1))
def L_X6_opened_14 (k : Int32 → jx_M → Option (Int32 × jx_M)) : Nat → Int32 → Int32 → jx_M → Option (Int32 × jx_M)
  | 0, _, _, _ => none
  | n + 1, z1, z2, M => if (M 8 1 0) ≤ z2 then k z1 M else jck (jin z2 4) (jlet (jx_r M 8 10 z2) (fun x3_1 => jck (jin z2 4) (jlet (jx_w M 8 10 z2 40) (fun M_1 => jbd (F_X6_areSo M_1) (fun r_1 M_2 => if r_1 = 0 then jlet (z1 ||| 0) (fun x1_1 => jck (jin z2 4) (jlet (jx_w M_2 8 10 z2 x3_1) (fun M_3 => jlet (z2 + 1) (fun x2_1 => L_X6_opened_14 k n x1_1 x2_1 M_3)))) else jlet (z1 ||| (1 <<< (z2 &&& 31))) (fun x1_2 => jck (jin z2 4) (jlet (jx_w M_2 8 10 z2 x3_1) (fun M_4 => jlet (z2 + 1) (fun x2_2 => L_X6_opened_14 k n x1_2 x2_2 M_4)))))))))
def F_X6_opened  (M : jx_M) : Option (Int32 × jx_M) :=
  if (M 8 2 0) = 0 then some ((-3), M) else L_X6_opened_14 (fun x1_3 M_5 => some (x1_3, M_5)) jfu 0 0 M
def L_X6_odds_39 (y1 : Int32) (y2 : Int32) (y3 : Int32) (k : Int64 → jx_M → Option (Int64 × jx_M)) : Nat → Int64 → Int32 → jx_M → Option (Int64 × jx_M)
  | 0, _, _, _ => none
  | n + 1, z4, z6, M => jbd (F_X6_all M) (fun r_5 M_5 => if r_5 < z6 then k z4 M_5 else jlet (jx_p M_5 8 8 z6) (fun M_6 => jbd (F_X6_noneEmpty y1 M_6) (fun r_6 M_7 => if r_6 = 0 then jlet (z4 + 0) (fun x4_1 => jlet (z6 + 1) (fun x6_1 => L_X6_odds_39 y1 y2 y3 k n x4_1 x6_1 M_7)) else jlet (z4 + 1) (fun x4_2 => jlet (z6 + 1) (fun x6_2 => L_X6_odds_39 y1 y2 y3 k n x4_2 x6_2 M_7)))))
def F_X6_odds (a1 : Int32) (a2 : Int32) (M : jx_M) : Option (Int64 × jx_M) :=
  jbd (F_X6_isDecade a1 M) (fun r_1 M_1 => if r_1 = 0 then jbd (F_X6_lost M_1) (fun r_2 M_2 => some (r_2, M_2)) else jbd (F_X6_in a2.toInt64 0 1 M_1) (fun r_3 M_3 => if r_3 = 0 then jbd (F_X6_lost M_3) (fun r_4 M_4 => some (r_4, M_4)) else if (M_3 8 2 0) = 0 then jbd (F_X6_lost M_3) (fun r_9 M_12 => some (r_9, M_12)) else jlet (M_3 8 8 0) (fun x3_1 => L_X6_odds_39 a1 a2 x3_1 (fun x4_3 M_8 => jlet (jx_p M_8 8 8 x3_1) (fun M_9 => jbd (F_X6_all M_9) (fun r_7 M_10 => jbd (F_X6_told x4_3 (r_7.toInt64 + 1) a2 M_10) (fun r_8 M_11 => some (r_8, M_11))))) jfu 0 0 M_3)))
def L_X6_sheet_65 (y1 : Int32) (y3 : Int32) (k : jx_M → Option (Int32 × jx_M)) : Nat → Int32 → jx_M → Option (Int32 × jx_M)
  | 0, _, _ => none
  | n + 1, z4, M => if y3 ≤ z4 then k M else jck (jin ((60 * y1) + z4) 240) (jlet (jx_w M 8 40 ((60 * y1) + z4) 0) (fun M_6 => jlet (z4 + 1) (fun x4_1 => L_X6_sheet_65 y1 y3 k n x4_1 M_6)))
def F_X6_sheet (a1 : Int32) (a2 : Int32) (a3 : Int32) (M : jx_M) : Option (Int32 × jx_M) :=
  jbd (F_X6_noSheet a1 M) (fun r_1 M_1 => if r_1 = 0 then jbd (F_X6_in a2.toInt64 0 2 M_1) (fun r_2 M_2 => if r_2 = 0 then jbd (F_X6_refused (-2) M_2) (fun r_3 M_3 => some (r_3, M_3)) else if a3 ≤ 60 then if 0 ≤ a3 then jck (jin a1 4) (jlet (jx_w M_2 8 38 a1 a3) (fun M_4 => jck (jin a1 4) (jlet (jx_w M_4 8 39 a1 a2) (fun M_5 => L_X6_sheet_65 a1 a3 (fun M_7 => jbd (F_X6_refused 1 M_7) (fun r_4 M_8 => some (r_4, M_8))) jfu 0 M_5)))) else jbd (F_X6_failed 4 M_2) (fun r_5 M_9 => some (r_5, M_9)) else jbd (F_X6_refused (-2) M_2) (fun r_6 M_10 => some (r_6, M_10))) else jbd (F_X6_refused (-1) M_1) (fun r_7 M_11 => some (r_7, M_11)))
def F_X6_lose (a1 : Int32) (M : jx_M) : Option (Int32 × jx_M) :=
  jbd (F_X6_noSheet a1 M) (fun r_1 M_1 => if r_1 = 0 then jck (jin a1 4) (if 0 ≤ (jx_r M_1 8 38 a1) then jck (jin a1 4) (jlet (jx_w M_1 8 38 a1 (-1)) (fun M_2 => some (1, M_2))) else jck (jin a1 4) (jlet (jx_w M_1 8 38 a1 (-1)) (fun M_3 => some (0, M_3)))) else some ((-1), M_1))
def F_X6_noCell (a1 : Int32) (a2 : Int32) (M : jx_M) : Option (Int32 × jx_M) :=
  jck (jin a1 4) (if 0 ≤ (jx_r M 8 38 a1) then jck (jin a1 4) (jbd (F_X6_in a2.toInt64 0 (((jx_r M 8 38 a1).toInt64) - 1) M) (fun r_1 M_1 => if r_1 = 0 then some (3, M_1) else some (0, M_1))) else some (1, M))
def F_X6_put (a1 : Int32) (a2 : Int32) (a3 : Int32) (M : jx_M) : Option (Int32 × jx_M) :=
  jbd (F_X6_noSheet a1 M) (fun r_1 M_1 => if r_1 = 0 then jbd (F_X6_noCell a1 a2 M_1) (fun r_2 M_2 => if r_2 ≤ 0 then jck (jin a1 4) (if (jx_r M_2 8 39 a1) = 0 then jck (jin ((60 * a1) + a2) 240) (jlet (jx_w M_2 8 40 ((60 * a1) + a2) a3.toInt8.toInt32) (fun M_7 => jbd (F_X6_refused 1 M_7) (fun r_5 M_8 => some (r_5, M_8)))) else jck (jin a1 4) (if (jx_r M_2 8 39 a1) = 1 then jck (jin ((60 * a1) + a2) 240) (jlet (jx_w M_2 8 40 ((60 * a1) + a2) a3.toInt16.toInt32) (fun M_5 => jbd (F_X6_refused 1 M_5) (fun r_4 M_6 => some (r_4, M_6)))) else jck (jin ((60 * a1) + a2) 240) (jlet (jx_w M_2 8 40 ((60 * a1) + a2) a3) (fun M_3 => jbd (F_X6_refused 1 M_3) (fun r_3 M_4 => some (r_3, M_4)))))) else jbd (F_X6_noCell a1 a2 M_2) (fun r_6 M_9 => jbd (F_X6_failed r_6 M_9) (fun r_7 M_10 => some (r_7, M_10)))) else jbd (F_X6_refused (-1) M_1) (fun r_8 M_11 => some (r_8, M_11)))
def F_X6_cell (a1 : Int32) (a2 : Int32) (a3 : Int32) (M : jx_M) : Option (Int64 × jx_M) :=
  jlet (jx_p M 8 0 0) (fun M_1 => jbd (F_X6_noSheet a1 M_1) (fun r_1 M_2 => if r_1 = 0 then jbd (F_X6_in a3.toInt64 0 2 M_2) (fun r_3 M_4 => if r_3 = 0 then jbd (F_X6_lost M_4) (fun r_11 M_12 => some (r_11, M_12)) else jck (jin a1 4) (if (jx_r M_4 8 38 a1) < 0 then jbd (F_X6_noCell a1 a2 M_4) (fun r_4 M_5 => if r_4 ≤ 0 then jck (jin ((60 * a1) + a2) 240) (some ((jx_r M_5 8 40 ((60 * a1) + a2)).toInt64, M_5)) else jbd (F_X6_noCell a1 a2 M_5) (fun r_5 M_6 => jbd (F_X6_failedLong r_5 M_6) (fun r_6 M_7 => some (r_6, M_7)))) else jck (jin a1 4) (if (jx_r M_4 8 39 a1) = a3 then jbd (F_X6_noCell a1 a2 M_4) (fun r_7 M_8 => if r_7 ≤ 0 then jck (jin ((60 * a1) + a2) 240) (some ((jx_r M_8 8 40 ((60 * a1) + a2)).toInt64, M_8)) else jbd (F_X6_noCell a1 a2 M_8) (fun r_8 M_9 => jbd (F_X6_failedLong r_8 M_9) (fun r_9 M_10 => some (r_9, M_10)))) else jbd (F_X6_failedLong 2 M_4) (fun r_10 M_11 => some (r_10, M_11))))) else jbd (F_X6_lost M_2) (fun r_2 M_3 => some (r_2, M_3))))
def L_X6_copy_107 (y1 : Int32) (y2 : Int32) (y3 : Int32) (y4 : Int32) (y5 : Int32) (k : jx_M → Option (Int32 × jx_M)) : Nat → Int32 → jx_M → Option (Int32 × jx_M)
  | 0, _, _ => none
  | n + 1, z6, M => if y5 ≤ z6 then k M else jck (jin (((60 * y1) + y2) + z6) 240) (jck (jin z6 60) (jlet (jx_w M 8 41 z6 (jx_r M 8 40 (((60 * y1) + y2) + z6))) (fun M_8 => jlet (z6 + 1) (fun x6_1 => L_X6_copy_107 y1 y2 y3 y4 y5 k n x6_1 M_8))))
def L_X6_copy_144 (y3 : Int32) (y4 : Int32) (y5 : Int32) (k : jx_M → Option (Int32 × jx_M)) : Nat → Int32 → jx_M → Option (Int32 × jx_M)
  | 0, _, _ => none
  | n + 1, z6, M => if y5 ≤ z6 then k M else jck (jin z6 60) (jck (jin (((60 * y3) + y4) + z6) 240) (jlet (jx_w M 8 40 (((60 * y3) + y4) + z6) (jx_r M 8 41 z6)) (fun M_10 => jlet (z6 + 1) (fun x6_2 => L_X6_copy_144 y3 y4 y5 k n x6_2 M_10))))
def F_X6_copy (a1 : Int32) (a2 : Int32) (a3 : Int32) (a4 : Int32) (a5 : Int32) (M : jx_M) : Option (Int32 × jx_M) :=
  jbd (F_X6_noSheet a1 M) (fun r_1 M_1 => if r_1 = 0 then jbd (F_X6_noSheet a3 M_1) (fun r_3 M_3 => if r_3 = 0 then jck (jin a1 4) (if (jx_r M_3 8 38 a1) < 0 then jbd (F_X6_failed 1 M_3) (fun r_4 M_4 => some (r_4, M_4)) else jck (jin a3 4) (if 0 ≤ (jx_r M_3 8 38 a3) then jck (jin a1 4) (jck (jin a3 4) (if (jx_r M_3 8 39 a1) = (jx_r M_3 8 39 a3) then jck (jin a1 4) (jbd (F_X6_isBeyond a2 a5.toInt64 (jx_r M_3 8 38 a1) M_3) (fun r_5 M_5 => if r_5 = 0 then jck (jin a3 4) (jbd (F_X6_isBeyond a4 a5.toInt64 (jx_r M_5 8 38 a3) M_5) (fun r_7 M_7 => if r_7 = 0 then L_X6_copy_107 a1 a2 a3 a4 a5 (fun M_9 => L_X6_copy_144 a3 a4 a5 (fun M_11 => jbd (F_X6_refused a5 M_11) (fun r_8 M_12 => some (r_8, M_12))) jfu 0 M_9) jfu 0 M_7 else jbd (F_X6_failed 3 M_7) (fun r_9 M_13 => some (r_9, M_13)))) else jbd (F_X6_failed 3 M_5) (fun r_6 M_6 => some (r_6, M_6)))) else jbd (F_X6_failed 2 M_3) (fun r_10 M_14 => some (r_10, M_14)))) else jbd (F_X6_failed 1 M_3) (fun r_11 M_15 => some (r_11, M_15)))) else jbd (F_X6_refused (-1) M_3) (fun r_12 M_16 => some (r_12, M_16))) else jbd (F_X6_refused (-1) M_1) (fun r_2 M_2 => some (r_2, M_2)))
def F_X6_traced (a1 : Int32) (M : jx_M) : Option (Unit × jx_M) :=
  jlet (jx_p M 8 42 ((31 * (M 8 42 0)) + a1)) (fun M_1 => some ((), M_1))
def F_X6_tell (a1 : Int32) (M : jx_M) : Option (Int32 × jx_M) :=
  jbd (F_X6_noPerson a1 M) (fun r_1 M_1 => if r_1 = 0 then jck (jin a1 6) (jlet (jx_r M_1 8 3 a1) (fun x2_1 => if x2_1 = 2 then jbd (F_X6_traced 3 M_1) (fun r_7 M_7 => if x2_1 ≤ 0 then jbd (F_X6_traced 1 M_7) (fun r_8 M_8 => if x2_1 = 2 then jbd (F_X6_traced 1 M_8) (fun r_9 M_9 => jck (jin a1 6) (jlet (jx_r M_9 8 7 a1) (fun x3_6 => if x2_1 = 0 then some (x3_6, M_9) else if x2_1 = 1 then some (x3_6 + 100, M_9) else some ((2 * x3_6) + 100, M_9)))) else jck (jin a1 6) (jlet (jx_r M_8 8 7 a1) (fun x3_5 => if x2_1 = 0 then some (x3_5, M_8) else if x2_1 = 1 then some (x3_5 + 100, M_8) else some ((2 * x3_5) + 100, M_8)))) else jbd (F_X6_traced 2 M_7) (fun r_10 M_10 => jbd (F_X6_traced 1 M_10) (fun r_11 M_11 => if x2_1 = 2 then jbd (F_X6_traced 1 M_11) (fun r_12 M_12 => jck (jin a1 6) (jlet (jx_r M_12 8 7 a1) (fun x3_8 => if x2_1 = 0 then some (x3_8, M_12) else if x2_1 = 1 then some (x3_8 + 100, M_12) else some ((2 * x3_8) + 100, M_12)))) else jck (jin a1 6) (jlet (jx_r M_11 8 7 a1) (fun x3_7 => if x2_1 = 0 then some (x3_7, M_11) else if x2_1 = 1 then some (x3_7 + 100, M_11) else some ((2 * x3_7) + 100, M_11)))))) else if x2_1 ≤ 0 then jbd (F_X6_traced 1 M_1) (fun r_2 M_2 => if x2_1 = 2 then jbd (F_X6_traced 1 M_2) (fun r_3 M_3 => jck (jin a1 6) (jlet (jx_r M_3 8 7 a1) (fun x3_2 => if x2_1 = 0 then some (x3_2, M_3) else if x2_1 = 1 then some (x3_2 + 100, M_3) else some ((2 * x3_2) + 100, M_3)))) else jck (jin a1 6) (jlet (jx_r M_2 8 7 a1) (fun x3_1 => if x2_1 = 0 then some (x3_1, M_2) else if x2_1 = 1 then some (x3_1 + 100, M_2) else some ((2 * x3_1) + 100, M_2)))) else jbd (F_X6_traced 2 M_1) (fun r_4 M_4 => jbd (F_X6_traced 1 M_4) (fun r_5 M_5 => if x2_1 = 2 then jbd (F_X6_traced 1 M_5) (fun r_6 M_6 => jck (jin a1 6) (jlet (jx_r M_6 8 7 a1) (fun x3_4 => if x2_1 = 0 then some (x3_4, M_6) else if x2_1 = 1 then some (x3_4 + 100, M_6) else some ((2 * x3_4) + 100, M_6)))) else jck (jin a1 6) (jlet (jx_r M_5 8 7 a1) (fun x3_3 => if x2_1 = 0 then some (x3_3, M_5) else if x2_1 = 1 then some (x3_3 + 100, M_5) else some ((2 * x3_3) + 100, M_5))))))) else some ((-1), M_1))
def F_X6_rouse (a1 : Int32) (M : jx_M) : Option (Int32 × jx_M) :=
  jbd (F_X6_noPerson a1 M) (fun r_1 M_1 => if r_1 = 0 then jck (jin a1 6) (if (jx_r M_1 8 3 a1) = 2 then jbd (F_X6_traced 5 M_1) (fun r_3 M_3 => jck (jin a1 6) (if (jx_r M_3 8 3 a1) = 2 then some (70, M_3) else some (a1, M_3))) else jbd (F_X6_traced 4 M_1) (fun r_2 M_2 => jck (jin a1 6) (if (jx_r M_2 8 3 a1) = 2 then some (70, M_2) else some (a1, M_2)))) else some ((-1), M_1))
def F_X6_as (a1 : Int32) (a2 : Int32) (M : jx_M) : Option (Int32 × jx_M) :=
  jbd (F_X6_noPerson a1 M) (fun r_1 M_1 => if r_1 = 0 then jbd (F_X6_in a2.toInt64 0 2 M_1) (fun r_2 M_2 => if r_2 = 0 then jbd (F_X6_refused (-2) M_2) (fun r_5 M_5 => some (r_5, M_5)) else jck (jin a1 6) (if (jx_r M_2 8 3 a1) < a2 then jbd (F_X6_failed 2 M_2) (fun r_3 M_3 => some (r_3, M_3)) else jbd (F_X6_refused 1 M_2) (fun r_4 M_4 => some (r_4, M_4)))) else jbd (F_X6_refused (-1) M_1) (fun r_6 M_6 => some (r_6, M_6)))
def F_X6_trace  (M : jx_M) : Option (Int32 × jx_M) :=
  some (M 8 42 0, M)
def F_X6_fault  (M : jx_M) : Option (Int32 × jx_M) :=
  some (M 8 0 0, M)
def F_X6_many (a1 : Int32) (M : jx_M) : Option (Int32 × jx_M) :=
  if a1 = 0 then some (M 8 2 0, M) else if a1 = 1 then some (M 8 1 0, M) else if a1 = 2 then some (M 8 19 0, M) else if a1 = 3 then some (M 8 34 0, M) else if a1 = 4 then some (M 8 9 0, M) else some ((-2), M)
