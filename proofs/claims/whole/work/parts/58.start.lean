/-! ===== the law's entry: both constructors, the letters, then its loop ===== -/
section JLI
variable {p : Program} {l : Launch} {e : Env} {s : State} {m : MethodId} {args : Array Value} {below : List Frame} {meth : Method} {c : Code} {H : Heap} {locs : List Loc} {ls : Array Slot} {D : va_G} {ci : ClassId} {cells slots pc : Nat} {st : List Value} {QQ : State → Prop} {A : Nat → Prop} {w wr : va_W}
theorem jl_init {a cj idx mc2 ms2 nL2 : Nat} {fs : List Value} {P2 : va_W → Prop} {y2 : MethodName} {cc2 : ByteArray} {R2 : Room} (i : Nat) (isR : List Nat) (hx : p.tables.exec = Jvm.exec) (hb : c.code = cL_law) (hm : c.maxLocals = 4) (ho : s.vm.findClass R_law = some m.cls) (ht : ∀ w ∈ lw_tbl, w.before args s = true) (hls : ls.size = 4) (hK : va_K D vwCl [(ci, .int)] s) (hN : iN s) (hP : va_P D vwCl w H) (hD : va_D A w) (hS : va_S A s.heap H locs) (hA : ∀ q, s.heap.size ≤ q → A q) (hM : ∀ sz2, iC l D ci sz2 [(a, .inr (cj, fs))] P2 y2 cc2 nL2 R2 mc2 ms2 [.ref a]) (hC : [i].map (fun i => w[i]?) = [((a, .inr (cj, fs)) : Nat × va_E)].map some) (hR : isR.map (fun i => w[i]?) = wr.map some) (hnd : va_nd isR = true) (hdis : ∀ j ∈ isR, j ∉ [i]) (hw : jwB R_law idx y2 cc2 nL2 none 0) (hi : Cond.instanceMethod y2 ∈ lw_g) (hy : y2.name = "<init>") (hr0 : R2.cells = mc2 ∧ R2.slots = ms2) (hrm : R2.frames + 1 ≤ room_1.frames ∧ 8 + (nL2 + 11) + R2.locals ≤ room_1.locals) (hce : cells + mc2 ≤ room_1.cells ∧ slots + ms2 ≤ room_1.slots) (hcat : (st.map fun v => v.category).sum ≤ 8) (d : decode cL_law pc = .ok (.invokespecial idx, 3)) (kk : ∀ (u : va_W) (H1 : Heap) (locs1 : List Loc), P2 u → va_P D vwCl (wr ++ u) H1 → va_D A (wr ++ u) → va_S A s.heap H1 locs1 → W p l e room_1 s m args below meth c H1 locs1 (cells + mc2) (slots + ms2) QQ (F0 m (pc + 3) ls st)) : W p l e room_1 s m args below meth c H locs cells slots QQ (F0 m pc ls (.ref a :: st)) := by
  have hx0 : w[i]? = some (a, .inr (cj, fs)) := by simpa using hC
  have hPc := hP.sub (ws' := [(a, .inr (cj, fs))]) [i] (by simp [hx0])
  have hDc := hD.sub (ws' := [(a, .inr (cj, fs))]) [i] rfl hC
  have hFc := va_free (wc := [(a, .inr (cj, fs))]) hD hS hA [i] hC
  refine va_callv (va_runI (As := []) (b := a) (rest := st) (Ts := lw_tbl) (own := R_law) ⟨hx, hb, hm, ho, ht⟩ (hM H.size) ⟨callB_of 0 ht (jlgood hw.2.1) rfl hr0.1 hr0.2 (ht _ (lg_in hw.2.2.1)) (ht _ (lg_in hw.1)) hw.2.2.2 hrm, hy, ht _ (lg_in hi)⟩ ⟨fun a U g mk q => by obtain ⟨q0, q1, qP, qK, qD, qN⟩ := q; exact ⟨q0, q1, qP, va_K.moved (u := U) (U := U.calling g mk a) (Vm.Alike.refl U.vm) qK, qD, va_Nw.same rfl rfl qN.1, va_Nw.same rfl rfl qN.2⟩, fun U hU hW => ⟨rfl, by rw [hU], by rw [hU]; exact hPc, va_K.moved hW.alike hK, hDc.weaken (fun _ _ _ _ => trivial), va_Nw.warmM hW hN.1, va_Nw.warmM hW hN.2⟩⟩ rfl rfl hls rfl (lv_room hcat) d hce) hS (fun q _ h => hFc q h) hFc (fun u t H1 locs1 htt hvm hp hB hz1 hk1 hS1 => ?_)
  obtain ⟨hP1, hK1, hD1⟩ := hB
  rw [htt] at hP1
  obtain ⟨hP2, hD2⟩ := va_join (wr := wr) (w1 := u) hP hD [i] isR hC hR hnd hdis hk1 hFc hP1 hD1
  exact kk u H1 locs1 hp hP2 hD2 hS1
end JLI
theorem law_known {s : State} {args : Array Value} (hg : ∀ w ∈ lw_g, w.before args s = true) : ∃ D : va_G, ∀ (k : Nat) (q : vw_C), vwCl[k]? = some q → u_Kn s q.1 q.2.1 q.2.2 (D.1 k) (D.2 k) := by
  have hkk : ∀ k : Nat, ∃ z : ClassId × (Nat → Nat), ∀ q : vw_C, vwCl[k]? = some q → u_Kn s q.1 q.2.1 q.2.2 z.1 z.2 := by
    intro k
    match k with
    | 0 =>
      obtain ⟨cC, iS, h⟩ := u_known (C := RX0) (T := TX0) (N := 14) (n := 14) hg jcl0.2.2.1 (hg _ (lw_g_of 188 (by decide +kernel) (by decide +kernel)))
      exact ⟨(cC, iS), fun q hq => by cases hq; exact h⟩
    | 1 =>
      obtain ⟨cC, iS, h⟩ := u_known (C := RX1) (T := TX1) (N := 7) (n := 7) hg jcl1.2.2.1 (hg _ (lw_g_of 71 (by decide +kernel) (by decide +kernel)))
      exact ⟨(cC, iS), fun q hq => by cases hq; exact h⟩
    | 2 =>
      obtain ⟨cC, iS, h⟩ := u_known (C := RX2) (T := TX2) (N := 7) (n := 7) hg jcl2.2.2.1 (hg _ (lw_g_of 132 (by decide +kernel) (by decide +kernel)))
      exact ⟨(cC, iS), fun q hq => by cases hq; exact h⟩
    | 3 =>
      obtain ⟨cC, iS, h⟩ := u_known (C := RX3) (T := TX3) (N := 4) (n := 4) hg jcl3.2.2.1 (hg _ (lw_g_of 168 (by decide +kernel) (by decide +kernel)))
      exact ⟨(cC, iS), fun q hq => by cases hq; exact h⟩
    | 4 =>
      obtain ⟨cC, iS, h⟩ := u_known (C := RX4) (T := TX4) (N := 3) (n := 3) hg jcl4.2.2.1 (hg _ (lw_g_of 112 (by decide +kernel) (by decide +kernel)))
      exact ⟨(cC, iS), fun q hq => by cases hq; exact h⟩
    | 5 =>
      obtain ⟨cC, iS, h⟩ := u_known (C := RX5) (T := TX5) (N := 15) (n := 15) hg jcl5.2.2.1 (hg _ (lw_g_of 63 (by decide +kernel) (by decide +kernel)))
      exact ⟨(cC, iS), fun q hq => by cases hq; exact h⟩
    | 6 =>
      obtain ⟨cC, iS, h⟩ := u_known (C := RX6) (T := TX6) (N := 43) (n := 43) hg jcl6.2.2.1 (hg _ (lw_g_of 652 (by decide +kernel) (by decide +kernel)))
      exact ⟨(cC, iS), fun q hq => by cases hq; exact h⟩
    | k + 7 =>
      obtain ⟨cC, iS, h⟩ := u_known (C := RX0) (T := TX0) (N := 14) (n := 14) hg jcl0.2.2.1 (hg _ (lw_g_of 188 (by decide +kernel) (by decide +kernel)))
      exact ⟨(cC, iS), fun q hq => by
        have h9 : k + 7 < 7 := (List.getElem?_eq_some_iff.mp hq).1
        omega⟩
  exact ⟨(fun k => (Classical.choose (hkk k)).1, fun k => (Classical.choose (hkk k)).2), fun k q hq => Classical.choose_spec (hkk k) q hq⟩
theorem law_ints {s : State} {args : Array Value} (hg : ∀ w ∈ lw_g, w.before args s = true) : ∃ ci : ClassId, ArrOfT s ci .int ∧ va_RA s ci .int := by
  obtain ⟨ci, kA, comp, hf, hk, hkind⟩ := Cond.arrayClass_spec (hg _ lw_ac)
  exact ⟨ci, fun n z => ⟨fun k h => (by cases h), kA, hk, comp, hkind⟩, hf⟩
theorem law_letters {s : State} {b : Nat} (hts : ∀ w ∈ lw_tbl, w.before #[Value.ref b] s = true) (hgv : (Jvm.Cond.and given_1 narrow_1).before #[Value.ref b] s = true) : ∃ t : Nat, va_Z "CenturyPosts$Land" "LETTERS" "[I" (.ref t) (fun q => s.heap.size ≤ q) s s.heap ∧ va_T .int t 3 (fun j => .int (jx_lt j)) (fun q => s.heap.size ≤ q) s s.heap := by
  have hs := flat_of_before _ hgv
  have hA : ∀ a : Nat, a < s.heap.size → ¬ (fun q : Nat => s.heap.size ≤ q) a := fun a ha h => absurd ha (Nat.not_lt.mpr h)
  obtain ⟨t, ht, hT⟩ := va_Tof (tm := (.static "CenturyPosts$Land" "LETTERS" "[I")) (ty := .int) (N := 3) (f := fun j => .int (jx_lt j)) (A := fun q => s.heap.size ≤ q) (by decide) (hs (.arrayOf (.static "CenturyPosts$Land" "LETTERS" "[I") .int) (by decide +kernel)) (va_eqt (z := 3) (hs (.eq (.length (.static "CenturyPosts$Land" "LETTERS" "[I")) (.int 3)) (by decide +kernel))) (fun j hj => by
    match j, hj with
    | 0, _ => exact va_eqt (z := 100) (hs (.eq (.elem (.static "CenturyPosts$Land" "LETTERS" "[I") (.int 0)) (.int 100)) (by decide +kernel))
    | 1, _ => exact va_eqt (z := 104) (hs (.eq (.elem (.static "CenturyPosts$Land" "LETTERS" "[I") (.int 1)) (.int 104)) (by decide +kernel))
    | 2, _ => exact va_eqt (z := 101) (hs (.eq (.elem (.static "CenturyPosts$Land" "LETTERS" "[I") (.int 2)) (.int 101)) (by decide +kernel))
    | j + 3, h => exact absurd h (by omega)) hA
  exact ⟨t, va_Zref (hts _ (List.mem_of_getElem? (i := 325) (by decide +kernel))) (hts _ (List.mem_of_getElem? (i := 52) (by decide +kernel))) ht hA, hT⟩
theorem whole_start {p : Program} {e : Env} {s : State} {m : MethodId} {below : List Frame} {meth : Method} {c : Code} (l : Launch) {b L : Nat} {xs : Nat → Int32} (hL : L ≤ 384) (C0 : lw_At p s m meth c b L xs) : W p l e room_1 s m #[Value.ref b] below meth c s.heap [] 0 0 (lw_Z below #[Value.ref b] s) (entryFrame m ([Value.ref b] : List Value).toArray 4) := by
  obtain ⟨hx, hb, hr, hml, hown, hts, hX, hbl, hlocks, hgv⟩ := id C0
  have hA : ∀ q : Nat, s.heap.size ≤ q → (fun q : Nat => s.heap.size ≤ q) q := fun _ h => h
  have hg : ∀ w ∈ lw_g, w.before #[Value.ref b] s = true := fun w h => hts w (lg_in h)
  obtain ⟨D, hKc⟩ := law_known hg
  obtain ⟨ci, hci⟩ := law_ints hg
  obtain ⟨t, hZ, hT⟩ := law_letters hts hgv
  have hK : va_K D vwCl [(ci, .int)] s := ⟨hKc, fun k q h => by
    have hz : k < 1 := (List.getElem?_eq_some_iff.mp h).1
    have hz : k = 0 := by omega
    subst hz
    cases h
    exact hci⟩
  have hN : iN s := ⟨va_Nw.of rfl (hts _ (List.mem_of_getElem? (i := 72) (by decide +kernel))), va_Nw.of rfl (hts _ (List.mem_of_getElem? (i := 169) (by decide +kernel)))⟩
  have hS : va_S (fun q : Nat => s.heap.size ≤ q) s.heap s.heap [] := va_S.rf
  have hP : va_P D vwCl [] s.heap := fun k q h => by simp at h
  have hD : va_D (fun q : Nat => s.heap.size ≤ q) [] := ⟨fun i j p q h => by simp at h, fun k q h => by simp at h⟩
  have hl := lv_entry ([.ref b]) (n := 4) (Nat.le_of_ble_eq_true rfl)
  rw [lg_entry_eq]
  generalize (lg_sl ([.ref b]) ++ List.replicate (4 - (lg_sl ([.ref b])).length) Slot.unset).toArray = ls at hl ⊢
  have hl : lv_has ls 4 [(0, .ref b)] := hl
  refine va_new (ci := 5) (fs := [.null, .null, .null, .null, .null, .null, .null, .null, .int 0, .int 0, .int 0, .int 0, .int 0, .int 0, .int 0]) hx hb hg jcl5.2.2.1 tyX5 jcl5.2.2.2.1 hown (hg (.classLink R_law 7 RX5) (lw_g_of 62 (by decide +kernel) (by decide +kernel))) (hg (.instantiable RX5 15) (lw_g_of 63 (by decide +kernel) (by decide +kernel))) (hg (.initialized RX5) (lw_g_of 51 (by decide +kernel) (by decide +kernel))) hK hP hD hS hA jcl5.1 (by decide +kernel) (by decide) (by decide) dL_law_0 (fun q0 H hP hD hS => ?_)
  refine lv_dup hx hb dL_law_3 rfl ?_
  refine jl_init (w := [(q0, .inr (5, [.null, .null, .null, .null, .null, .null, .null, .null, .int 0, .int 0, .int 0, .int 0, .int 0, .int 0, .int 0]))]) (wr := []) (ci := ci) 0 [] hx hb hml hown hts hl.1 hK hN hP hD hS hA (fun sz2 => cI_X5 l D ci sz2 q0) rfl rfl (by decide) (by decide) ⟨lw_g_of 64 (by decide +kernel) (by decide +kernel), lw_g_of 66 (by decide +kernel) (by decide +kernel), lw_g_of 51 (by decide +kernel) (by decide +kernel), by decide +kernel⟩ (lw_g_of 65 (by decide +kernel) (by decide +kernel)) rfl ⟨rfl, rfl⟩ ⟨by decide, by decide⟩ ⟨by decide, by decide⟩ (Nat.le_of_ble_eq_true rfl) dL_law_4 (fun u H locs hu hP hD hS => ?_)
  obtain ⟨A, f1, f3, f6, hA0, rfl, h1, h3⟩ := LC_of hu
  have hP : va_P D vwCl (LC ci A f1 f3 f6) H := hP
  have hD : va_D (fun q : Nat => s.heap.size ≤ q) (LC ci A f1 f3 f6) := hD
  refine W.widen (k := 44) (n := 2195) (by decide) (by decide) ?_
  refine lv_astore_n (lv' := [(1, .ref q0), (0, .ref b)]) hx hb dL_law_7 rfl hl (by decide) rfl (fun ls hl => ?_)
  refine va_new (ci := 6) (fs := [.int 0, .int 0, .int 0, .null, .null, .null, .null, .null, .int 0, .int 0, .null, .int 0, .int 0, .int 0, .null, .null, .null, .null, .null, .int 0, .null, .null, .null, .null, .null, .null, .null, .null, .int 0, .int 0, .int 0, .null, .null, .null, .int 0, .null, .null, .null, .null, .null, .null, .null, .int 0]) hx hb hg jcl6.2.2.1 tyX6 jcl6.2.2.2.1 hown (hg (.classLink R_law 10 RX6) (lw_g_of 651 (by decide +kernel) (by decide +kernel))) (hg (.instantiable RX6 43) (lw_g_of 652 (by decide +kernel) (by decide +kernel))) (hg (.initialized RX6) (lw_g_of 58 (by decide +kernel) (by decide +kernel))) hK hP hD hS hA jcl6.1 (by decide +kernel) (by decide) (by decide) dL_law_8 (fun q1 H hP hD hS => ?_)
  refine lv_dup hx hb dL_law_11 rfl ?_
  refine jl_init (w := LC ci A f1 f3 f6 ++ [(q1, .inr (6, [.int 0, .int 0, .int 0, .null, .null, .null, .null, .null, .int 0, .int 0, .null, .int 0, .int 0, .int 0, .null, .null, .null, .null, .null, .int 0, .null, .null, .null, .null, .null, .null, .null, .null, .int 0, .int 0, .int 0, .null, .null, .null, .int 0, .null, .null, .null, .null, .null, .null, .null, .int 0]))]) (wr := LC ci A f1 f3 f6) (ci := ci) 44 [0, 1, 2, 3, 4, 5, 6, 7, 8, 9, 10, 11, 12, 13, 14, 15, 16, 17, 18, 19, 20, 21, 22, 23, 24, 25, 26, 27, 28, 29, 30, 31, 32, 33, 34, 35, 36, 37, 38, 39, 40, 41, 42, 43] hx hb hml hown hts hl.1 hK hN hP hD hS hA (fun sz2 => cI_X6 l D ci sz2 q1) rfl rfl (by decide) (by decide) ⟨lw_g_of 653 (by decide +kernel) (by decide +kernel), lw_g_of 655 (by decide +kernel) (by decide +kernel), lw_g_of 58 (by decide +kernel) (by decide +kernel), by decide +kernel⟩ (lw_g_of 654 (by decide +kernel) (by decide +kernel)) rfl ⟨rfl, rfl⟩ ⟨by decide, by decide⟩ ⟨by decide, by decide⟩ (Nat.le_of_ble_eq_true rfl) dL_law_12 (fun u H locs hu hP hD hS => ?_)
  obtain ⟨B, hB0, rfl⟩ := LM_of hu
  refine W.widen (k := 74) (n := 2701) (by decide) (by decide) ?_
  refine lv_astore_n (lv' := [(2, .ref q1), (1, .ref q0), (0, .ref b)]) hx hb dL_law_15 rfl hl (by decide) rfl (fun ls hl => ?_)
  refine lv_iconst (v := 0) hx hb dL_law_16 (by decide) ?_
  refine lv_istore_n (lv' := [(3, .int 0), (2, .ref q1), (1, .ref q0), (0, .ref b)]) hx hb dL_law_17 rfl hl (by decide) rfl (fun ls hl => ?_)
  obtain ⟨ad, hadC, hadM⟩ : ∃ ad : Nat → Nat → Nat, (∀ o j, o < 8 → ad o j = A (ixC o j)) ∧ ∀ j, ad 8 j = B (ixM 8 j) := ⟨fun o j => if o = 8 then B (ixM 8 j) else A (ixC o j), fun o j h => if_neg (by omega), fun j => if_pos rfl⟩
  have e0 : ad 0 0 = q0 := (hadC 0 0 (by decide)).trans hA0
  have e8 : ad 8 0 = q1 := (hadM 0).trans hB0
  have hE1 : lE (eC l D ci ad t) (eM l D ci ad t) s := ⟨fun q hq => by
    obtain ⟨o, j, -, -, -, -, ee, xx⟩ := jA_C (f1 := f1) (f3 := f3) (f6 := f6) hadC hq
    exact (vaD_l hD).2 _ _ xx, fun q k1 k2 => by
    obtain ⟨o, j, -, -, -, -, ee, xx⟩ := jA_C (f1 := f1) (f3 := f3) (f6 := f6) hadC k1
    obtain ⟨j2, -, -, -, e2, x2⟩ := jA_M hadM k2
    exact vaD_x hD xx x2 rfl⟩
  have hE2 : lE (eM l D ci ad t) (eC l D ci ad t) s := ⟨fun q hq => by
    obtain ⟨j2, -, -, -, e2, x2⟩ := jA_M hadM hq
    exact (vaD_r hD).2 _ _ x2, fun q k1 k2 => hE1.2 q k2 k1⟩
  have hl : lv_has ls 4 [(3, .int (nI 0)), (2, .ref (ad 8 0)), (1, .ref (ad 0 0)), (0, .ref b)] := by
    rw [e0, e8, nI_0]
    exact hl
  exact law_loop (l := l) (D := D) (ci := ci) (ad := ad) (t := t) (b := b) (xs := xs) hL L 0 (c00 f1 f3 f6) m00 (by omega) (by omega) (Inv_first h1 h3) p e s m _ below meth c H locs ls hx hb hml hown hts ⟨hr, hlocks, hX, hbl, ⟨hK, hZ, hT⟩, hE1, hE2⟩ hl ⟨jH_C (vaP_l hP) (vaD_l hD) hadC, jH_M (vaP_r hP) (vaD_r hD) hadM, hS⟩
