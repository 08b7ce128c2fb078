/-! ===== the rules of the heap: fields, arrays, the letters, returns, calls ===== -/
theorem jx_v_set {E : jx_E} {M : jx_M} {o k : Nat} {f : Nat → Int32} {o' k' c : Nat} (h : ¬ (o' = o ∧ k' = k)) : jx_v E (jx_set M o k f) c o' k' = jx_v E M c o' k' := by
  unfold jx_v
  rw [jx_set_n h]
/-- a field is written -/
theorem jH.put {E : jx_E} {M : jx_M} {H H1 : Heap} {o k : Nat} {v : Int32} {iS : Nat} {cell : Cell} (h : jH E M H) (hB : jB E o) (hk : k < jx_n (jx_c o)) (hk0 : jx_k (jx_c o) k = 0) (hc : H[ja E o 0]? = some cell) (hap : ∀ x y, x < jx_n (jx_c o) → y < jx_n (jx_c o) → x ≠ y → (E.2.1.2 (jx_c o)) x ≠ (E.2.1.2 (jx_c o)) y) (hi : iS = E.2.1.2 (jx_c o) k) (e1 : H1[ja E o 0]? = some (cell.setSlot iS (.int v))) (oq : ∀ q : Nat, q ≠ ja E o 0 → H1[q]? = H[q]?) : jH E (jx_p M o k v) H1 := by
  subst hi
  obtain ⟨hD, hO, hR⟩ := h
  refine ⟨hD, fun o' hB' => ?_, fun o' k' hB' hn' hk' => ?_⟩
  · by_cases ho : o' = o
    · subst ho
      obtain ⟨c2, q1, q2, q3, q4⟩ := hO o' hB'
      cases hc.symm.trans q1
      refine ⟨_, e1, q2, q3, fun j hj => ?_⟩
      have hs := t_set q4 hap hk (Value.int v) j hj
      rw [hs]
      by_cases hjk : j = k
      · subst hjk
        have e9 : jx_v E (jx_p M o' j v) (jx_c o') o' j = .int v := by
          unfold jx_v
          rw [hk0]
          simp [jx_p, jx_set]
        show some (updV _ j (.int v) j) = some (jx_v E (jx_p M o' j v) (jx_c o') o' j)
        rw [e9]
        simp [updV]
      · show some (updV (fun k => jx_v E M (jx_c o') o' k) k (.int v) j) = some (jx_v E (jx_p M o' k v) (jx_c o') o' j)
        unfold jx_p
        rw [jx_v_set (by simp [hjk])]
        simp [updV, hjk]
    · have hne : ja E o' 0 ≠ ja E o 0 := fun e => ho (hD o' 0 o 0 (jvld0 hB') (jvld0 hB) e).1
      refine ((hO o' hB').kept (oq _ hne)).to (fun j _ => ?_)
      show jx_v E M (jx_c o') o' j = jx_v E (jx_set M o k _) (jx_c o') o' j
      rw [jx_v_set (by simp [ho])]
  · have hne : ja E o' (k' + 1) ≠ ja E o 0 := fun e => absurd (hD o' (k' + 1) o 0 (jvld1 hB' hn' hk') (jvld0 hB) e).2 (by omega)
    rw [oq _ hne, hR o' k' hB' hn' hk']
    have : ¬ (o' = o ∧ k' = k) := by
      rintro ⟨rfl, rfl⟩
      rw [hk'] at hk0
      exact absurd hk0 (by decide)
    show some (vp_cell E.2.2.1 (jx_l (jx_c o') k', .inl (M o' k'))) = some (vp_cell E.2.2.1 (jx_l (jx_c o') k', .inl (jx_set M o k _ o' k')))
    rw [jx_set_n this]
/-- an array is written -/
theorem jH.arr {E : jx_E} {M : jx_M} {H H1 : Heap} {o k : Nat} {f : Nat → Int32} (h : jH E M H) (hB : jB E o) (hk : k < jx_n (jx_c o)) (hk1 : jx_k (jx_c o) k = 1) (e1 : H1[ja E o (k + 1)]? = some (vp_cell E.2.2.1 (jx_l (jx_c o) k, .inl f))) (oq : ∀ q : Nat, q ≠ ja E o (k + 1) → H1[q]? = H[q]?) : jH E (jx_set M o k f) H1 := by
  obtain ⟨hD, hO, hR⟩ := h
  refine ⟨hD, fun o' hB' => ?_, fun o' k' hB' hn' hk' => ?_⟩
  · have hne : ja E o' 0 ≠ ja E o (k + 1) := fun e => absurd (hD o' 0 o (k + 1) (jvld0 hB') (jvld1 hB hk hk1) e).2 (by omega)
    refine ((hO o' hB').kept (oq _ hne)).to (fun j _ => ?_)
    by_cases hj : o' = o ∧ j = k
    · obtain ⟨rfl, rfl⟩ := hj
      unfold jx_v
      rw [hk1]
      rfl
    · show jx_v E M (jx_c o') o' j = jx_v E (jx_set M o k f) (jx_c o') o' j
      rw [jx_v_set hj]
  · by_cases hj : o' = o ∧ k' = k
    · obtain ⟨rfl, rfl⟩ := hj
      rw [e1, jx_set_s]
    · have hne : ja E o' (k' + 1) ≠ ja E o (k + 1) := fun e => by
        obtain ⟨h1, h2⟩ := hD o' (k' + 1) o (k + 1) (jvld1 hB' hn' hk') (jvld1 hB hk hk1) e
        exact hj ⟨h1, by omega⟩
      rw [oq _ hne, hR o' k' hB' hn' hk', jx_set_n hj]
section JH
variable {E : jx_E} {y : MethodName} {cc : ByteArray} {nL : Nat} {ret : Option FieldType} {R : Room} {Q : Option Value → jx_M → Prop} {pc n : Nat} {L : List (Nat × Value)} {st : List Value} {M : jx_M}
/-- what the tables say of a class of ours -/
def jcl (ci : Nat) (C : String) (T : u_T) (N : Nat) (ty : Nat → FieldType) : Prop := vwCl[ci]? = some (C, T, N) ∧ jx_n ci = N ∧ (∀ w ∈ u_ws C T N, w ∈ lw_g) ∧ (∀ k, k < N → parseFieldDescriptor (T k).2.2.1 = some (ty k)) ∧ (∀ a, a < N → ∀ b, b < N → a ≠ b → (T a).2.1 ≠ (T b).2.1)
theorem jh_get {ci : Nat} {C : String} {T : u_T} {N : Nat} {ty : Nat → FieldType} (hcl : jcl ci C T N ty) {idx k o : Nat} {v : Value} (hk : k < N) (hlink : Cond.fieldLink y.cls idx (T k).1 (T k).2.1 (T k).2.2.1 ∈ lw_g) (hoc : jx_c o = ci) (hB : jB E o) (d : decode cc pc = .ok (.getfield idx, 3)) (hv : jx_v E M ci o k = v) (hn : pc + 3 = n) (kk : jJ E y cc nL ret R Q n L (v :: st) M) : jJ E y cc nL ret R Q pc L (.ref (ja E o 0) :: st) M := by
  subst hn
  intro p e s m args below meth c H locs ls hx hb hm ho ht hex hl hh
  obtain ⟨h1, h2, h3, h4, h5⟩ := hcl
  have hin : ∀ w ∈ u_ws C T N, w ∈ Cond.code y cc nL ret :: lw_g := fun w h => List.mem_cons_of_mem _ (h3 w h)
  obtain ⟨cell, q1, q2, q3, q4⟩ := hh.1.2.1 o hB
  obtain ⟨hS, hfc, kC, hkC, hkind⟩ := hex.2.2.1.1 ci _ h1
  obtain ⟨cf, kf, fi, f, hi, hsl⟩ := hS k hk
  refine W.getf hx hb ho (ht _ (List.mem_cons_of_mem _ hlink)) hi (u_facts hfc hkC (u_lays ht hin hk) hi).1 q1 (by rw [q3]; exact fun h => by cases h) (v := v) ?_ rfl rfl d (kk p e s m args below meth c H locs ls hx hb hm ho ht hex hl hh)
  rw [hsl]
  have := q4 k (by rw [hoc, h2]; exact hk)
  rw [hoc] at this
  rw [this]
  show some (jx_v E M ci o k) = some v
  rw [hv]
theorem jh_put {ci : Nat} {C : String} {T : u_T} {N : Nat} {ty : Nat → FieldType} (hcl : jcl ci C T N ty) {idx k o : Nat} {v : Int32} (hk : k < N) (hlink : Cond.fieldLink y.cls idx (T k).1 (T k).2.1 (T k).2.2.1 ∈ lw_g) (hfin : (T k).2.2.2 = false) (hk0 : jx_k ci k = 0) (hoc : jx_c o = ci) (hB : jB E o) (d : decode cc pc = .ok (.putfield idx, 3)) (hf : narrow (ty k) (.int v) = .int v ∧ fits (ty k) (.int v) = true) (hn : pc + 3 = n) (kk : ∀ M1, M1 = jx_p M o k v → jJ E y cc nL ret R Q n L st M1) : jJ E y cc nL ret R Q pc L (.int v :: .ref (ja E o 0) :: st) M := by
  subst hn
  intro p e s m args below meth c H locs ls hx hb hm ho ht hex hl hh
  obtain ⟨h1, h2, h3, h4, h5⟩ := hcl
  have hin : ∀ w ∈ u_ws C T N, w ∈ Cond.code y cc nL ret :: lw_g := fun w h => List.mem_cons_of_mem _ (h3 w h)
  have hap := va_apart (own := y.cls) ht hin ty h4 h5 hex.2.2.1 h1
  obtain ⟨cell, q1, q2, q3, q4⟩ := hh.1.2.1 o hB
  obtain ⟨hS, hfc, kC, hkC, hkind⟩ := hex.2.2.1.1 ci _ h1
  obtain ⟨cf, kf, fi, f, hi, hsl⟩ := hS k hk
  have hlay := ht _ (hin _ (u_in_lay hk))
  unfold u_lay at hlay
  rw [if_neg (by rw [hfin]; decide)] at hlay
  have hst := (u_facts hfc hkC (u_lays ht hin hk) hi).1
  have h6 := u_store hfc hkC hkind hlay hi (h4 k hk) hf.1 hf.2
  have hkn : k < jx_n (jx_c o) := by rw [hoc, h2]; exact hk
  refine W.putK hx hb (f := f) ⟨ho, ht _ (List.mem_cons_of_mem _ hlink), ⟨_, _, _, hi⟩, hst⟩ (by rw [q2, hoc]; exact h6) q1 q3 (by rw [hsl, ← hoc]; exact k2_hasslot (q4 k hkn)) rfl rfl d fun H' e1 e2 e3 => ?_
  refine kk _ rfl p e s m args below meth c H' _ ls hx hb hm ho ht hex hl ⟨jH.put hh.1 hB hkn (by rw [hoc]; exact hk0) q1 (by rw [hoc, h2]; exact hap) (by rw [hoc]; exact hsl) e1 e3, hh.2.put e2 e3 (jA.of (jvld0 hB))⟩
theorem jh_iald {ci k o N : Nat} {i : Int32} (hoc : jx_c o = ci) (hB : jB E o) (hk : k < jx_n ci) (hk1 : jx_k ci k = 1) (hN : jx_l ci k = N) (hin : jin i N = true) (d : decode cc pc = .ok (.iaload, 1)) (hn : pc + 1 = n) (kk : jJ E y cc nL ret R Q n L (.int (jx_r M o k i) :: st) M) : jJ E y cc nL ret R Q pc L (.int i :: .ref (ja E o (k + 1)) :: st) M := by
  subst hn
  subst hoc
  subst hN
  intro p e s m args below meth c H locs ls hx hb hm ho ht hex hl hh
  have hi := jin_e hin
  have hlt : i.toNatClampNeg < jx_l (jx_c o) k := Nat.not_le.mp fun q => hi (Or.inr q)
  exact W.iald (v := .int (M o k i.toNatClampNeg)) hx hb (hh.1.2.2 o k hB hk hk1) ((hex.2.2.1.2 0 _ rfl).1 _ (fun j => .int (M o k j))) (fun q => by cases q) (by show ¬ (i < 0 ∨ (arrV _ _ _).slots.size ≤ _); rw [arrV_size]; exact hi) (by show (arrV _ _ _).slots[_]? = _; rw [arrV_read _ _ hlt]) rfl rfl d (kk p e s m args below meth c H locs ls hx hb hm ho ht hex hl hh)
theorem jh_iast {ci k o N : Nat} {i x : Int32} (hoc : jx_c o = ci) (hB : jB E o) (hk : k < jx_n ci) (hk1 : jx_k ci k = 1) (hN : jx_l ci k = N) (hin : jin i N = true) (d : decode cc pc = .ok (.iastore, 1)) (hn : pc + 1 = n) (kk : ∀ M1, M1 = jx_w M o k i x → jJ E y cc nL ret R Q n L st M1) : jJ E y cc nL ret R Q pc L (.int x :: .int i :: .ref (ja E o (k + 1)) :: st) M := by
  subst hn
  subst hoc
  subst hN
  intro p e s m args below meth c H locs ls hx hb hm ho ht hex hl hh
  have hi := jin_e hin
  refine W.iast hx hb (hh.1.2.2 o k hB hk hk1) ((hex.2.2.1.2 0 _ rfl).1 _ (fun j => .int (M o k j))) (fun q => by cases q) (by show ¬ (i < 0 ∨ (arrV _ _ _).slots.size ≤ _); rw [arrV_size]; exact hi) rfl rfl d fun H1 e1 z oq => ?_
  refine kk _ rfl p e s m args below meth c H1 _ ls hx hb hm ho ht hex hl ⟨jH.arr hh.1 hB hk hk1 ?_ oq, hh.2.put z oq (jA.of (jvld1 hB hk hk1))⟩
  rw [e1]
  rw [vp_cell_i, vp_cell_i, arrV_store]
  congr 2
  funext q
  by_cases hq : q = i.toNatClampNeg
  · subst hq
    simp [updV, upd]
  · simp [updV, upd, hq]
theorem jh_alen {ci k o N : Nat} {v : Int32} (hoc : jx_c o = ci) (hB : jB E o) (hk : k < jx_n ci) (hk1 : jx_k ci k = 1) (hN : jx_l ci k = N) (hv : Int32.ofNat N = v) (d : decode cc pc = .ok (.arraylength, 1)) (hn : pc + 1 = n) (kk : jJ E y cc nL ret R Q n L (.int v :: st) M) : jJ E y cc nL ret R Q pc L (.ref (ja E o (k + 1)) :: st) M := by
  subst hn
  subst hoc
  subst hN
  subst hv
  intro p e s m args below meth c H locs ls hx hb hm ho ht hex hl hh
  exact W.alen (n := Int32.ofNat (jx_l (jx_c o) k)) hx hb (hh.1.2.2 o k hB hk hk1) ((hex.2.2.1.2 0 _ rfl).1 _ (fun j => .int (M o k j))) (by rw [vp_cell_i, arrV_size] <;> rfl) rfl rfl d (kk p e s m args below meth c H locs ls hx hb hm ho ht hex hl hh)
theorem jh_gets {idx : Nat} (hlink : Cond.fieldLink y.cls idx "CenturyPosts$Land" "LETTERS" "[I" ∈ lw_g) (d : decode cc pc = .ok (.getstatic idx, 3)) (hn : pc + 3 = n) (kk : jJ E y cc nL ret R Q n L (.ref (jt E) :: st) M) : jJ E y cc nL ret R Q pc L st M := by
  subst hn
  intro p e s m args below meth c H locs ls hx hb hm ho ht hex hl hh
  exact va_gets hx hb hex.2.2.2.1 hh.2 ho (ht _ (List.mem_cons_of_mem _ hlink)) (fun _ h => h) d (kk p e s m args below meth c H locs ls hx hb hm ho ht hex hl hh)
theorem jh_lett {i : Int32} (hin : jin i 3 = true) (d : decode cc pc = .ok (.iaload, 1)) (hn : pc + 1 = n) (kk : jJ E y cc nL ret R Q n L (.int (jx_lt i.toNatClampNeg) :: st) M) : jJ E y cc nL ret R Q pc L (.int i :: .ref (jt E) :: st) M := by
  subst hn
  intro p e s m args below meth c H locs ls hx hb hm ho ht hex hl hh
  exact va_ti hx hb hex.2.2.2.2 hh.2 (jin_e hin) rfl d (kk p e s m args below meth c H locs ls hx hb hm ho ht hex hl hh)
/-! returns -/
theorem jh_iret {v r : Int32} {M' : jx_M} (hr : ret = some .int) (d : decode cc pc = .ok (.ireturn, 1)) (hF : (some (v, M) : Option (Int32 × jx_M)) = some (r, M')) : jJ E y cc nL ret R (fun x M'' => x = some (.int r) ∧ M'' = M') pc L [.int v] M := by
  cases hF
  intro p e s m args below meth c H locs ls hx hb hm ho ht hex hl hh
  exact W.iret hx hb (hex.1.trans hr) (fun t ht hW => ⟨⟨_, M, rfl, ⟨rfl, rfl⟩, by rw [ht]; exact hh.1, hex.2.2.go hW.alike hh.2 ht⟩, hh.2.F ht⟩) hh.2.2.2 d hex.2.1
theorem jh_zret {v r : Int32} {M' : jx_M} (hr : ret = some .boolean) (hv : v = 0 ∨ v = 1) (d : decode cc pc = .ok (.ireturn, 1)) (hF : (some (v, M) : Option (Int32 × jx_M)) = some (r, M')) : jJ E y cc nL ret R (fun x M'' => x = some (.int r) ∧ M'' = M') pc L [.int v] M := by
  cases hF
  intro p e s m args below meth c H locs ls hx hb hm ho ht hex hl hh
  exact W.zret hx hb (hex.1.trans hr) (by rcases hv with rfl | rfl <;> rfl) (fun t ht hW => ⟨⟨_, M, rfl, ⟨rfl, rfl⟩, by rw [ht]; exact hh.1, hex.2.2.go hW.alike hh.2 ht⟩, hh.2.F ht⟩) hh.2.2.2 d hex.2.1
theorem jh_lret {v r : Int64} {M' : jx_M} (hr : ret = some .long) (d : decode cc pc = .ok (.lreturn, 1)) (hF : (some (v, M) : Option (Int64 × jx_M)) = some (r, M')) : jJ E y cc nL ret R (fun x M'' => x = some (.long r) ∧ M'' = M') pc L [.long v] M := by
  cases hF
  intro p e s m args below meth c H locs ls hx hb hm ho ht hex hl hh
  exact W.lret hx hb (hex.1.trans hr) (fun t ht hW => ⟨⟨_, M, rfl, ⟨rfl, rfl⟩, by rw [ht]; exact hh.1, hex.2.2.go hW.alike hh.2 ht⟩, hh.2.F ht⟩) hh.2.2.2 d hex.2.1
theorem jh_vret {r : Unit} {M' : jx_M} (hr : ret = none) (d : decode cc pc = .ok (.return_, 1)) (hF : (some ((), M) : Option (Unit × jx_M)) = some (r, M')) : jJ E y cc nL ret R (fun x M'' => x = none ∧ M'' = M') pc L [] M := by
  cases hF
  intro p e s m args below meth c H locs ls hx hb hm ho ht hex hl hh
  exact W.vret hx hb (hex.1.trans hr) (fun t ht hW => ⟨⟨_, M, rfl, ⟨rfl, rfl⟩, by rw [ht]; exact hh.1, hex.2.2.go hW.alike hh.2 ht⟩, hh.2.F ht⟩) hh.2.2.2 d hex.2.1
theorem jh_aret {o r : Nat} {M' : jx_M} {C : String} (hr : ret = some (.object C)) (d : decode cc pc = .ok (.areturn, 1)) (hF : (some (o, M) : Option (Nat × jx_M)) = some (r, M')) : jJ E y cc nL ret R (fun x M'' => x = some (.ref (ja E r 0)) ∧ M'' = M') pc L [.ref (ja E o 0)] M := by
  cases hF
  intro p e s m args below meth c H locs ls hx hb hm ho ht hex hl hh
  exact W.aret hx hb (hex.1.trans hr) (Or.inl ⟨_, rfl⟩) (Or.inr ⟨_, rfl⟩) (fun t ht hW => ⟨⟨_, M, rfl, ⟨rfl, rfl⟩, by rw [ht]; exact hh.1, hex.2.2.go hW.alike hh.2 ht⟩, hh.2.F ht⟩) hh.2.2.2 d hex.2.1
/-! calls -/
theorem jC.blind {as : List Value} {M : jx_M} : FrameBlind (va_Pc as (fun U => jH E M U.heap ∧ jK E U)) := fun a U g mk q => by
  obtain ⟨q0, q1, q2⟩ := q
  exact ⟨q0, q1, jK.moved (U := U.calling g mk a) q2 (Vm.Alike.refl U.vm) rfl⟩
theorem jh_after {p : Program} {e : Env} {s : State} {m : MethodId} {args : Array Value} {below : List Frame} {meth : Method} {c : Code} {H : Heap} {locs : List Loc} {ls : Array Slot} {a : Array Value} {rv : Option Value} {M1 : jx_M} {QQ : State → Prop} {stk : List Value} (hr : va_Run p E.1 e R s m args below meth c H locs 0 0 0 0 (F0 m pc ls stk) st (jQ E (fun v M'' => v = rv ∧ M'' = M1) a) (jA E)) (hS : va_S (jA E) s.heap H locs) (kk : ∀ (H1 : Heap) (locs1 : List Loc), jH E M1 H1 → va_S (jA E) s.heap H1 locs1 → W p E.1 e R s m args below meth c H1 locs1 0 0 QQ (F0 m (pc + 3) ls (rv.toList ++ st))) : W p E.1 e R s m args below meth c H locs 0 0 QQ (F0 m pc ls stk) := by
  intro T hT X
  obtain ⟨v, st₀, t, T', L, h0, X', hL, e1, e2, ⟨⟨r, M2, hv, ⟨hp1, hp2⟩, hb1, hb2⟩, hz, hk⟩, hst⟩ := hr T hT X
  cases hv
  subst hp1
  subst hp2
  rw [h0] at hz hk
  obtain ⟨t2, a1, b1⟩ := kk T'.heap (locs ++ L) (by rw [e1]; exact hb1)
    ⟨Nat.le_trans hS.1 (by rw [e1]; exact hz), fun q h1 h2 => by rw [e1, hk q (Nat.lt_of_lt_of_le h1 hS.1) h2]; exact hS.2.1 q h1 h2, fun q hq => by
      rcases List.mem_append.mp hq with h | h
      · exact hS.2.2 q h
      · exact hL q h⟩ T' rfl X'
  exact ⟨t2, hst t2 a1, b1⟩
theorem lw_good : lw_g.all goodWord = true := List.all_eq_true.mpr fun w h => (List.mem_filter.mp h).2
theorem jgood {x : Cond} {y2 : MethodName} {cc2 : ByteArray} {nL2 : Nat} {ret2 : Option FieldType} (hc : Cond.code y2 cc2 nL2 ret2 ∈ lw_g) : GoodIn (x :: lw_g) (Cond.code y2 cc2 nL2 ret2 :: lw_g) := by
  intro w hw
  have h1 : w ∈ lw_g := by
    rcases List.mem_cons.mp hw with h | h
    · rw [h]; exact hc
    · exact h
  exact ⟨List.mem_cons_of_mem _ h1, good_of_word (List.all_eq_true.mp lw_good w h1)⟩
/-- the words of a call of a method of ours -/
def jwB (own : String) (idx : Nat) (y2 : MethodName) (cc2 : ByteArray) (nL2 : Nat) (ret2 : Option FieldType) (nn : Nat) : Prop := Cond.methodLink own idx y2 ∈ lw_g ∧ Cond.code y2 cc2 nL2 ret2 ∈ lw_g ∧ Cond.initialized y2.cls ∈ lw_g ∧ (y2.cls ≠ "java/lang/invoke/MethodHandle" ∧ y2.cls ≠ "java/lang/invoke/VarHandle" ∧ (parseMethodDescriptor y2.desc).map (fun d => d.parameters.length) = some nn)
def jrm (R R2 : Room) (nL2 : Nat) : Prop := R2.cells = 0 ∧ R2.slots = 0 ∧ R2.frames + 1 ≤ R.frames ∧ 8 + (nL2 + 11) + R2.locals ≤ R.locals
theorem jcallB {s : State} {args : Array Value} {idx : Nat} {y2 : MethodName} {cc2 : ByteArray} {nL2 : Nat} {ret2 : Option FieldType} {nn : Nat} {R2 : Room} (ht : ∀ w ∈ Cond.code y cc nL ret :: lw_g, w.before args s = true) (hw : jwB y.cls idx y2 cc2 nL2 ret2 nn) (hR : jrm R R2 nL2) : CallB R s args y.cls idx y2 cc2 nL2 ret2 (Cond.code y2 cc2 nL2 ret2 :: lw_g) R2 0 0 nn :=
  callB_of nn ht (jgood hw.2.1) rfl hR.1 hR.2.1 (ht _ (List.mem_cons_of_mem _ hw.2.2.1)) (ht _ (List.mem_cons_of_mem _ hw.1)) hw.2.2.2 hR.2.2
theorem jh_callV {idx : Nat} {y2 : MethodName} {cc2 : ByteArray} {nL2 : Nat} {ret2 : Option FieldType} {nn : Nat} {R2 : Room} {rv : Option Value} {M1 : jx_M} {o : Nat} {C : String} {T : u_T} {N : Nat} {as stk : List Value} (hC : jC E y2 cc2 nL2 ret2 R2 (.ref (ja E o 0) :: as) M (fun v M'' => v = rv ∧ M'' = M1)) (hw : jwB y.cls idx y2 cc2 nL2 ret2 nn) (hw2 : Cond.instanceMethod y2 ∈ lw_g ∧ Cond.selects C y2 y2 ∈ lw_g) (hR : jrm R R2 nL2) (hcl : vwCl[jx_c o]? = some (C, T, N)) (hB : jB E o) (hlen : as.length = nn) (hs : as.reverse ++ .ref (ja E o 0) :: st = stk) (hcat : (st.map fun v => v.category).sum ≤ 8) (d : decode cc pc = .ok (.invokevirtual idx, 3)) (hn : pc + 3 = n) (kk : jJ E y cc nL ret R Q n L (rv.toList ++ st) M1) : jJ E y cc nL ret R Q pc L stk M := by
  subst hn
  intro p e s m args below meth c H locs ls hx hb hm ho ht hex hl hh
  have hB0 := jcallB (R := R) (s := s) (args := args) ht hw hR
  refine jh_after (va_runV (C := C) (b := ja E o 0) (As := as) (rest := st) (Ts := Cond.code y cc nL ret :: lw_g) (own := y.cls) ⟨hx, hb, hm, ho, ht⟩ hC ⟨hB0, ht _ (List.mem_cons_of_mem _ hw2.1), ht _ (List.mem_cons_of_mem _ hw2.2)⟩ ⟨jC.blind, ?_, fun U hU hW => ⟨rfl, by rw [hU]; exact hh.1, hex.2.2.go hW.alike hh.2 hU⟩⟩ rfl hlen hl.1 hs.symm (lv_room hcat) d ⟨Nat.zero_le _, Nat.zero_le _⟩) hh.2 (fun H1 locs1 hH1 hS1 => kk p e s m args below meth c H1 locs1 ls hx hb hm ho ht hex hl ⟨hH1, hS1⟩)
  obtain ⟨cell, q1, q2, q3, q4⟩ := hh.1.2.1 o hB
  obtain ⟨hS, hfc, kC, hkC, hkind⟩ := hex.2.2.1.1 _ _ hcl
  exact ⟨cell, q1, by rw [q3]; rfl, by rw [q2]; exact hfc⟩
theorem jh_callS {idx : Nat} {y2 : MethodName} {cc2 : ByteArray} {nL2 : Nat} {ret2 : Option FieldType} {nn : Nat} {R2 : Room} {rv : Option Value} {M1 : jx_M} {as stk : List Value} (hC : jC E y2 cc2 nL2 ret2 R2 as M (fun v M'' => v = rv ∧ M'' = M1)) (hw : jwB y.cls idx y2 cc2 nL2 ret2 nn) (hw2 : Cond.static y2 ∈ lw_g) (hR : jrm R R2 nL2) (hlen : as.length = nn) (hs : as.reverse ++ st = stk) (hcat : (st.map fun v => v.category).sum ≤ 8) (d : decode cc pc = .ok (.invokestatic idx, 3)) (hn : pc + 3 = n) (kk : jJ E y cc nL ret R Q n L (rv.toList ++ st) M1) : jJ E y cc nL ret R Q pc L stk M := by
  subst hn
  intro p e s m args below meth c H locs ls hx hb hm ho ht hex hl hh
  have hB0 := jcallB (R := R) (s := s) (args := args) ht hw hR
  exact jh_after (va_runS (As := as) (rest := st) (Ts := Cond.code y cc nL ret :: lw_g) (own := y.cls) ⟨hx, hb, hm, ho, ht⟩ hC ⟨hB0, ht _ (List.mem_cons_of_mem _ hw2)⟩ ⟨jC.blind, fun U hU hW => ⟨rfl, by rw [hU]; exact hh.1, hex.2.2.go hW.alike hh.2 hU⟩⟩ rfl hlen hl.1 hs.symm (lv_room hcat) d ⟨Nat.zero_le _, Nat.zero_le _⟩) hh.2 (fun H1 locs1 hH1 hS1 => kk p e s m args below meth c H1 locs1 ls hx hb hm ho ht hex hl ⟨hH1, hS1⟩)
/-- System.arraycopy -/
def jcp (sp dp k : Int32) (n0 n1 : Nat) : Bool := decide (0 ≤ sp.toInt) && decide (0 ≤ dp.toInt) && decide (0 ≤ k.toInt) && decide (sp.toInt + k.toInt ≤ n0) && decide (dp.toInt + k.toInt ≤ n1)
def jx_cp (M : jx_M) (o k o1 k1 : Nat) (sp dp len : Int32) : jx_M := jx_set M o1 k1 (va_cpy (M o k) (M o1 k1) sp.toNatClampNeg dp.toNatClampNeg len.toNatClampNeg)
theorem jh_copy {idx : Nat} {ci k o N ci1 k1 o1 N1 : Nat} {sp dp len : Int32} (hlink : Cond.methodLink y.cls idx arraycopyName ∈ lw_g) (hnat : Cond.native arraycopyName ∈ lw_g) (hstat : Cond.static arraycopyName ∈ lw_g) (hini : Cond.initialized "java/lang/System" ∈ lw_g) (hoc : jx_c o = ci) (hB : jB E o) (hk : k < jx_n ci) (hk1 : jx_k ci k = 1) (hN : jx_l ci k = N) (hoc1 : jx_c o1 = ci1) (hB1 : jB E o1) (hk2 : k1 < jx_n ci1) (hk3 : jx_k ci1 k1 = 1) (hN1 : jx_l ci1 k1 = N1) (hin : jcp sp dp len N N1 = true) (hfr : 1 ≤ R.frames) (hlo : (st.map fun v => v.category).sum + (nativeFrameWords "java/lang/System" "arraycopy" 5 + 11) ≤ R.locals) (d : decode cc pc = .ok (.invokestatic idx, 3)) (hn : pc + 3 = n) (kk : ∀ M1, M1 = jx_cp M o k o1 k1 sp dp len → jJ E y cc nL ret R Q n L st M1) : jJ E y cc nL ret R Q pc L (.int len :: .int dp :: .ref (ja E o1 (k1 + 1)) :: .int sp :: .ref (ja E o (k + 1)) :: st) M := by
  subst hn
  subst hoc
  subst hoc1
  subst hN
  subst hN1
  intro p e s m args below meth c H locs ls hx hb hm ho ht hex hl hh
  simp only [jcp, Bool.and_eq_true, decide_eq_true_eq] at hin
  obtain ⟨⟨⟨⟨g1, g2⟩, g3⟩, g4⟩, g5⟩ := hin
  have nn : ∀ z : Int32, 0 ≤ z.toInt → z.toInt = (z.toNatClampNeg : Int) := fun z hz => by
    show z.toInt = ((z.toInt.toNat : Nat) : Int)
    omega
  have ng : ∀ z : Int32, 0 ≤ z.toInt → ¬ z < 0 := fun z hz h => by
    have := Int32.lt_iff_toInt_lt.mp h
    rw [Int32.toInt_zero] at this
    omega
  have e1 := nn sp g1
  have e2 := nn dp g2
  have e3 := nn len g3
  have hc0 := hh.1.2.2 o k hB hk hk1
  have hc1 := hh.1.2.2 o1 k1 hB1 hk2 hk3
  intro T hT X
  have hAr : ArrOfT s E.2.2.1 .int := (hex.2.2.1.2 0 (E.2.2.1, .int) rfl).1
  obtain ⟨-, k0, hk0, cm0, hkk0⟩ := hAr (jx_l (jx_c o) k) (fun j => .int (M o k j))
  obtain ⟨-, k2, hkk, cm1, hkk1⟩ := hAr (jx_l (jx_c o1) k1) (fun j => .int (M o1 k1 j))
  have h4 : sp.toNatClampNeg + len.toNatClampNeg ≤ jx_l (jx_c o) k := by omega
  obtain ⟨vm', X', step⟩ := X.arraycopy hx ho (ht _ (List.mem_cons_of_mem _ hlink)) (ht _ (List.mem_cons_of_mem _ hnat)) (ht _ (List.mem_cons_of_mem _ hstat)) (ht _ (List.mem_cons_of_mem _ hini)) (src := ja E o (k + 1)) (dst := ja E o1 (k1 + 1)) (cs := vp_cell E.2.2.1 (jx_l (jx_c o) k, .inl (M o k))) (cd := vp_cell E.2.2.1 (jx_l (jx_c o1) k1, .inl (M o1 k1))) (srcPos := sp) (destPos := dp) (n := len) (by rw [hT]; exact hc0) (by rw [hT]; exact hc1)
    (fun _ h => by cases h) (fun _ h => by cases h) (fun h => by cases h) (fun h => by cases h) hk0 hkk hkk0 hkk1 (by simp [refKind]) (ng sp g1) (ng dp g2) (ng len g3)
    (by show ¬ _ > ((arrV _ _ (fun j => .int (M o k j))).slots.size : Int); rw [arrV_size]; omega)
    (by show ¬ _ > ((arrV _ _ (fun j => .int (M o1 k1 j))).slots.size : Int); rw [arrV_size]; omega)
    (fun vm₁ _ i hi => by
      have e : (vp_cell E.2.2.1 (jx_l (jx_c o) k, .inl (M o k))).slots.getD (sp.toNatClampNeg + i) .null = .int (M o k (sp.toNatClampNeg + i)) := by
        show (arrV _ _ (fun j => .int (M o k j))).slots.getD _ _ = _
        rw [Array.getD_eq_getD_getElem?, arrV_read _ _ (by omega)]
        rfl
      refine ⟨?_, ?_⟩
      · rw [e]
        rfl
      · rw [e]
        exact trivial)
    (g := F0 m pc ls (.int len :: .int dp :: .ref (ja E o1 (k1 + 1)) :: .int sp :: .ref (ja E o (k + 1)) :: st)) rfl (by rw [hm]; exact hl.1) (rest := st) rfl (by rw [hb]; exact d) hfr (by show 2 * 0 + _ + _ ≤ _; omega)
  have ec : copied (vp_cell E.2.2.1 (jx_l (jx_c o) k, .inl (M o k))) (vp_cell E.2.2.1 (jx_l (jx_c o1) k1, .inl (M o1 k1))) sp dp len = vp_cell E.2.2.1 (jx_l (jx_c o1) k1, .inl (va_cpy (M o k) (M o1 k1) sp.toNatClampNeg dp.toNatClampNeg len.toNatClampNeg)) := va_copied (fun z => .int z) _ _ (M o k) (M o1 k1) h4
  rw [ec] at X' step
  have hlz : ja E o1 (k1 + 1) < H.size := (Array.getElem?_eq_some_iff.mp hc1).1
  have hheap : ((T.setVm vm').setCell (ja E o1 (k1 + 1)) (vp_cell E.2.2.1 (jx_l (jx_c o1) k1, .inl (va_cpy (M o k) (M o1 k1) sp.toNatClampNeg dp.toNatClampNeg len.toNatClampNeg)))).heap = H.setIfInBounds (ja E o1 (k1 + 1)) (vp_cell E.2.2.1 (jx_l (jx_c o1) k1, .inl (va_cpy (M o k) (M o1 k1) sp.toNatClampNeg dp.toNatClampNeg len.toNatClampNeg))) := by rw [← hT]; rfl
  have oq : ∀ q : Nat, q ≠ ja E o1 (k1 + 1) → (H.setIfInBounds (ja E o1 (k1 + 1)) (vp_cell E.2.2.1 (jx_l (jx_c o1) k1, .inl (va_cpy (M o k) (M o1 k1) sp.toNatClampNeg dp.toNatClampNeg len.toNatClampNeg))))[q]? = H[q]? := fun q hq => by simp [Array.getElem?_setIfInBounds, Ne.symm hq]
  obtain ⟨t, a1, b1⟩ := kk _ rfl p e s m args below meth c _ _ ls hx hb hm ho ht hex hl ⟨jH.arr hh.1 hB1 hk2 hk3 (by simp [Array.getElem?_setIfInBounds, hlz]) oq, ⟨by simp; exact hh.2.1, fun q g1 g2 => by
      rw [oq q (fun e => g2 (by rw [e]; exact jA.of (jvld1 hB1 hk2 hk3)))]
      exact hh.2.2.1 q g1 g2, fun q hq => by
      rcases List.mem_append.mp hq with h | h
      · exact hh.2.2.2 q h
      · obtain ⟨z, -, hz⟩ := List.mem_map.mp h
        rw [← hz]
        exact jA.of (jvld1 hB1 hk2 hk3)⟩⟩ _ hheap X'
  exact ⟨t, step t a1, b1⟩
theorem jh_aretU {o : Nat} {r : Unit} {M' : jx_M} {C : String} (hr : ret = some (.object C)) (d : decode cc pc = .ok (.areturn, 1)) (hF : (some ((), M) : Option (Unit × jx_M)) = some (r, M')) : jJ E y cc nL ret R (fun x M'' => x = some (.ref (ja E o 0)) ∧ M'' = M') pc L [.ref (ja E o 0)] M := by
  cases hF
  intro p e s m args below meth c H locs ls hx hb hm ho ht hex hl hh
  exact W.aret hx hb (hex.1.trans hr) (Or.inl ⟨_, rfl⟩) (Or.inr ⟨_, rfl⟩) (fun t ht hW => ⟨⟨_, M, rfl, ⟨rfl, rfl⟩, by rw [ht]; exact hh.1, hex.2.2.go hW.alike hh.2 ht⟩, hh.2.F ht⟩) hh.2.2.2 d hex.2.1
theorem jh_callV1 {idx : Nat} {y2 : MethodName} {cc2 : ByteArray} {nL2 : Nat} {ret2 : Option FieldType} {nn : Nat} {R2 : Room} {v : Value} {M1 : jx_M} {o : Nat} {C : String} {T : u_T} {N : Nat} {as stk : List Value} (hC : jC E y2 cc2 nL2 ret2 R2 (.ref (ja E o 0) :: as) M (fun z M'' => z = some v ∧ M'' = M1)) (hw : jwB y.cls idx y2 cc2 nL2 ret2 nn) (hw2 : Cond.instanceMethod y2 ∈ lw_g ∧ Cond.selects C y2 y2 ∈ lw_g) (hR : jrm R R2 nL2) (hcl : vwCl[jx_c o]? = some (C, T, N)) (hB : jB E o) (hlen : as.length = nn) (hs : as.reverse ++ .ref (ja E o 0) :: st = stk) (hcat : (st.map fun v => v.category).sum ≤ 8) (d : decode cc pc = .ok (.invokevirtual idx, 3)) (hn : pc + 3 = n) (kk : jJ E y cc nL ret R Q n L (v :: st) M1) : jJ E y cc nL ret R Q pc L stk M := jh_callV (rv := some v) hC hw hw2 hR hcl hB hlen hs hcat d hn kk
theorem jh_callV0 {idx : Nat} {y2 : MethodName} {cc2 : ByteArray} {nL2 : Nat} {ret2 : Option FieldType} {nn : Nat} {R2 : Room} {M1 : jx_M} {o : Nat} {C : String} {T : u_T} {N : Nat} {as stk : List Value} (hC : jC E y2 cc2 nL2 ret2 R2 (.ref (ja E o 0) :: as) M (fun v M'' => v = none ∧ M'' = M1)) (hw : jwB y.cls idx y2 cc2 nL2 ret2 nn) (hw2 : Cond.instanceMethod y2 ∈ lw_g ∧ Cond.selects C y2 y2 ∈ lw_g) (hR : jrm R R2 nL2) (hcl : vwCl[jx_c o]? = some (C, T, N)) (hB : jB E o) (hlen : as.length = nn) (hs : as.reverse ++ .ref (ja E o 0) :: st = stk) (hcat : (st.map fun v => v.category).sum ≤ 8) (d : decode cc pc = .ok (.invokevirtual idx, 3)) (hn : pc + 3 = n) (kk : jJ E y cc nL ret R Q n L st M1) : jJ E y cc nL ret R Q pc L stk M := jh_callV (rv := none) hC hw hw2 hR hcl hB hlen hs hcat d hn kk
theorem jh_callS1 {idx : Nat} {y2 : MethodName} {cc2 : ByteArray} {nL2 : Nat} {ret2 : Option FieldType} {nn : Nat} {R2 : Room} {v : Value} {M1 : jx_M} {as stk : List Value} (hC : jC E y2 cc2 nL2 ret2 R2 as M (fun z M'' => z = some v ∧ M'' = M1)) (hw : jwB y.cls idx y2 cc2 nL2 ret2 nn) (hw2 : Cond.static y2 ∈ lw_g) (hR : jrm R R2 nL2) (hlen : as.length = nn) (hs : as.reverse ++ st = stk) (hcat : (st.map fun v => v.category).sum ≤ 8) (d : decode cc pc = .ok (.invokestatic idx, 3)) (hn : pc + 3 = n) (kk : jJ E y cc nL ret R Q n L (v :: st) M1) : jJ E y cc nL ret R Q pc L stk M := jh_callS (rv := some v) hC hw hw2 hR hlen hs hcat d hn kk
theorem jh_callS0 {idx : Nat} {y2 : MethodName} {cc2 : ByteArray} {nL2 : Nat} {ret2 : Option FieldType} {nn : Nat} {R2 : Room} {M1 : jx_M} {as stk : List Value} (hC : jC E y2 cc2 nL2 ret2 R2 as M (fun v M'' => v = none ∧ M'' = M1)) (hw : jwB y.cls idx y2 cc2 nL2 ret2 nn) (hw2 : Cond.static y2 ∈ lw_g) (hR : jrm R R2 nL2) (hlen : as.length = nn) (hs : as.reverse ++ st = stk) (hcat : (st.map fun v => v.category).sum ≤ 8) (d : decode cc pc = .ok (.invokestatic idx, 3)) (hn : pc + 3 = n) (kk : jJ E y cc nL ret R Q n L st M1) : jJ E y cc nL ret R Q pc L stk M := jh_callS (rv := none) hC hw hw2 hR hlen hs hcat d hn kk
theorem jlook2 {x : Int32} {a b d : Int} (h1 : ¬ x = 1) (h2 : ¬ x = 2) : Op.lookupswitch.offset [(1, a), (2, b)] d x.toInt = d := by
  have e1 : ¬ x.toInt = 1 := fun h => h1 (Int32.toInt_inj.mp h)
  have e2 : ¬ x.toInt = 2 := fun h => h2 (Int32.toInt_inj.mp h)
  simp [Op.lookupswitch.offset, e1, e2, Ne.symm e1, Ne.symm e2]
  try omega
/-- Math.abs, Math.max -/
def jabs (x : Int32) : Int32 := if 0 ≤ x then x else 0 - x
def jmax (x y : Int32) : Int32 := if x < y then y else x
theorem jh_abs {idx : Nat} {x : Int32} (hlink : Cond.methodLink y.cls idx Lib.Math.abs.name ∈ lw_g) (hstat : Cond.static Lib.Math.abs.name ∈ lw_g) (hini : Cond.initialized "java/lang/Math" ∈ lw_g) (hcode : Cond.code Lib.Math.abs.name Lib.Math.abs.code 1 (some .int) ∈ lw_g) (hfr : 1 ≤ R.frames) (hlo : (st.map fun v => v.category).sum + 13 ≤ R.locals) (d : decode cc pc = .ok (.invokestatic idx, 3)) (hn : pc + 3 = n) (kk : jJ E y cc nL ret R Q n L (.int (jabs x) :: st) M) : jJ E y cc nL ret R Q pc L (.int x :: st) M := by
  subst hn
  intro p e s m args below meth c H locs ls hx hb hm ho ht hex hl hh
  exact va_mabs hx hb (by rw [hm]; exact hl.1.symm) ho (ht _ (List.mem_cons_of_mem _ hlink)) (ht _ (List.mem_cons_of_mem _ hstat)) (ht _ (List.mem_cons_of_mem _ hini)) (ht _ (List.mem_cons_of_mem _ hcode)) hfr hlo (Nat.zero_le _) (Nat.zero_le _) d (kk p e s m args below meth c H locs ls hx hb hm ho ht hex hl hh)
theorem jh_max {idx : Nat} {x z : Int32} (hlink : Cond.methodLink y.cls idx Lib.Math.max.name ∈ lw_g) (hstat : Cond.static Lib.Math.max.name ∈ lw_g) (hini : Cond.initialized "java/lang/Math" ∈ lw_g) (hcode : Cond.code Lib.Math.max.name Lib.Math.max.code 2 (some .int) ∈ lw_g) (hfr : 1 ≤ R.frames) (hlo : (st.map fun v => v.category).sum + 13 ≤ R.locals) (d : decode cc pc = .ok (.invokestatic idx, 3)) (hn : pc + 3 = n) (kk : jJ E y cc nL ret R Q n L (.int (jmax x z) :: st) M) : jJ E y cc nL ret R Q pc L (.int z :: .int x :: st) M := by
  subst hn
  intro p e s m args below meth c H locs ls hx hb hm ho ht hex hl hh
  exact va_mmax hx hb (by rw [hm]; exact hl.1.symm) ho (ht _ (List.mem_cons_of_mem _ hlink)) (ht _ (List.mem_cons_of_mem _ hstat)) (ht _ (List.mem_cons_of_mem _ hini)) (ht _ (List.mem_cons_of_mem _ hcode)) hfr hlo (Nat.zero_le _) (Nat.zero_le _) d (kk p e s m args below meth c H locs ls hx hb hm ho ht hex hl hh)
end JH
