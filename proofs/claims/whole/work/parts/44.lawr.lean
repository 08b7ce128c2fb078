def R_law : String := "CenturyPostsLaw"
def lw_P (b : Addr) (xs : List Int32) (args : Array Value) (s : State) : Prop := args = #[.ref b] ∧ s.IntsAt b xs ∧ xs.length ≤ 384 ∧ (Jvm.Cond.and given_1 narrow_1).before args s = true
def lw_Q (_ : Array Value) (s : State) (o : Outcome) (t : State) : Prop := o = .returned (some (.int 1)) ∧ Framed s o t [] 74 2701
def lw_Z (below : List Frame) (a : Array Value) (s : State) : State → Prop := fun t => ∃ o, t.status = .running ∧ Ended t below o ∧ lw_Q a s o t
/-- the law's own end, with 1 on the stack, nothing written that was there before, its room as the claim has it -/
theorem lw_ret {p : Program} {l : Launch} {e : Env} {s : State} {m : MethodId} {below : List Frame} {meth : Method} {c : Code} {b : Nat} (hx : p.tables.exec = Jvm.exec) (hb : c.code = code) (hr : meth.sig.returnType = ret) (hlocks : meth.locks = false) {pc : Nat} {H : Heap} {ls : Array Slot} (hdg : decode code pc = .ok (.ireturn, 1)) : W p l e room_1 s m #[Value.ref b] below meth c H [] 74 2701 (lw_Z below #[Value.ref b] s) (F0 m pc ls [.int 1]) := by
  intro T hT X
  obtain ⟨fs, hret, hrun, hended, hW, hframe⟩ := X.leave (v := some (.int 1)) (hlocks := hlocks) (fun h => by rw [hr] at h; cases h)
  have hmeth' : T.vm.method? m = some meth := X.method'
  refine ⟨T.setFrames fs, ?_, .returned (some (.int 1)), hrun, hended, rfl, ⟨_, rfl⟩, hW, hframe⟩
  jvm_step X.here [X.here.top, hx, hb, hdg, hmeth', hr, ret, narrow_b1]
  (try refine ⟨rfl, ?_⟩); (try refine ⟨rfl, ?_⟩)
  first | (intro acts; rw [hret _ acts rfl rfl rfl]) | rw [hret _ _ rfl rfl rfl]
  exact Steps.refl _
/-- what holds at the law's entry: the machine, the code, the tables' words (any of lw_tbl by 'hts w (by decide +kernel)'), the script of L ints xs at the cell b, what the Statement gives of the start (any of its parts by flat_of_before) -/
def lw_At (p : Program) (s : State) (m : MethodId) (meth : Method) (c : Code) (b L : Nat) (xs : Nat → Int32) : Prop :=
  p.tables.exec = Jvm.exec ∧ c.code = code ∧ meth.sig.returnType = ret ∧ c.maxLocals = 4 ∧ s.vm.findClass R_law = some m.cls ∧ (∀ w ∈ lw_tbl, w.before #[Value.ref b] s = true) ∧ va_X b L xs s s.heap ∧ b < s.heap.size ∧ meth.locks = false ∧ (Jvm.Cond.and given_1 narrow_1).before #[Value.ref b] s = true
/-! ===== the law's own walk: both worlds beside each other ===== -/
theorem va_Zw {C n d : String} {v : Value} {A A' : Nat → Prop} {U : State} {H : Heap} (h : va_Z C n d v A U H) (hA : ∀ q, A' q → A q) : va_Z C n d v A' U H := by
  obtain ⟨cf, kf, fi, f, a, cell, h1, h2, h3, h4, h5, h6, h7, h8⟩ := h
  exact ⟨cf, kf, fi, f, a, cell, h1, h2, h3, h4, h5, h6, h7, fun z => h8 (hA _ z)⟩
theorem va_Tw {ty : FieldType} {t N : Nat} {f : Nat → Value} {A A' : Nat → Prop} {U : State} {H : Heap} (h : va_T ty t N f A U H) (hA : ∀ q, A' q → A q) : va_T ty t N f A' U H := by
  obtain ⟨cell, h1, h2, h3, h4, h5, h6, h7⟩ := h
  exact ⟨cell, h1, h2, h3, h4, h5, h6, fun z => h7 (hA _ z)⟩
theorem jH.kept {E : jx_E} {M : jx_M} {H H1 : Heap} (h : jH E M H) (k : ∀ q : Nat, q < H.size → jA E q → H1[q]? = H[q]?) : jH E M H1 := by
  obtain ⟨h1, h2, h3⟩ := h
  refine ⟨h1, fun o hB => ?_, fun o j hB hn hk => ?_⟩
  · obtain ⟨cell, q1, -⟩ := id (h2 o hB)
    exact (h2 o hB).kept (k _ (Array.getElem?_eq_some_iff.mp q1).1 (jA.of (jvld0 hB)))
  · have q1 := h3 o j hB hn hk
    rw [k _ (Array.getElem?_eq_some_iff.mp q1).1 (jA.of (jvld1 hB hn hk))]
    exact q1
/-- the component's world and the model's -/
abbrev eC (l : Launch) (D : va_G) (ci : ClassId) (ad : Nat → Nat → Nat) (t : Nat) : jx_E := (l, D, ci, ad, (fun o => o < 8), t)
abbrev eM (l : Launch) (D : va_G) (ci : ClassId) (ad : Nat → Nat → Nat) (t : Nat) : jx_E := (l, D, ci, ad, (fun o => o = 8), t)
def lK (D : va_G) (ci : ClassId) (t : Nat) (s : State) : Prop := va_K D vwCl [(ci, .int)] s ∧ va_Z "CenturyPosts$Land" "LETTERS" "[I" (.ref t) (fun q => s.heap.size ≤ q) s s.heap ∧ va_T .int t 3 (fun j => .int (jx_lt j)) (fun q => s.heap.size ≤ q) s s.heap
def lE (E E' : jx_E) (s : State) : Prop := (∀ q, jA E q → s.heap.size ≤ q) ∧ ∀ q, jA E q → ¬ jA E' q
theorem lK.go {l : Launch} {D : va_G} {ci : ClassId} {ad : Nat → Nat → Nat} {B : Nat → Prop} {t : Nat} {s U : State} {H : Heap} {locs : List Loc} (h : lK D ci t s) (hE : ∀ q, jA (l, D, ci, ad, B, t) q → s.heap.size ≤ q) (hvm : s.vm.Alike U.vm) (hS : va_S (fun q => s.heap.size ≤ q) s.heap H locs) (hU : U.heap = H) : jK (l, D, ci, ad, B, t) U :=
  ⟨va_K.moved hvm h.1, by rw [hU]; exact va_Zw (va_Z.moved hvm (h.2.1.kept hS.2.1)) hE, by rw [hU]; exact va_Tw (va_T.moved hvm (h.2.2.kept hS.2.1)) hE⟩
def lX (l : Launch) (D : va_G) (ci : ClassId) (ad : Nat → Nat → Nat) (t b Ln : Nat) (xs : Nat → Int32) (s : State) (meth : Method) : Prop := meth.sig.returnType = ret ∧ meth.locks = false ∧ va_X b Ln xs s s.heap ∧ b < s.heap.size ∧ lK D ci t s ∧ lE (eC l D ci ad t) (eM l D ci ad t) s ∧ lE (eM l D ci ad t) (eC l D ci ad t) s
def lH (l : Launch) (D : va_G) (ci : ClassId) (ad : Nat → Nat → Nat) (t : Nat) (w : jx_M × jx_M) (s : State) (H : Heap) (locs : List Loc) : Prop := jH (eC l D ci ad t) w.1 H ∧ jH (eM l D ci ad t) w.2 H ∧ va_S (fun q => s.heap.size ≤ q) s.heap H locs
abbrev LG (l : Launch) (D : va_G) (ci : ClassId) (ad : Nat → Nat → Nat) (t b Ln : Nat) (xs : Nat → Int32) (pc : Nat) (L : List (Nat × Value)) (st : List Value) (w : jx_M × jx_M) : Prop :=
  jG l room_1 74 2701 cL_law 4 R_law lw_tbl (lX l D ci ad t b Ln xs) (lH l D ci ad t) (fun below args s => lw_Z below args s) pc L st w
section LR
variable {l : Launch} {D : va_G} {ci : ClassId} {ad : Nat → Nat → Nat} {t b Ln : Nat} {xs : Nat → Int32} {pc n : Nat} {L : List (Nat × Value)} {st : List Value} {w : jx_M × jx_M}
theorem jl_rd {v : Int32} {q : Nat} (hv : v = nI q) (hq : q < Ln) (hL : Ln < 2 ^ 31) (d : decode cL_law pc = .ok (.iaload, 1)) (hn : pc + 1 = n) (kk : LG l D ci ad t b Ln xs n L (.int (xs q) :: st) w) : LG l D ci ad t b Ln xs pc L (.int v :: .ref b :: st) w := by
  subst hn
  subst hv
  intro p e s m args below meth c H locs ls hx hb hm ho ht hex hl hh
  refine va_sld hx hb hex.2.2.1 hex.2.2.2.1 (A := fun q => s.heap.size ≤ q) (by show ¬ s.heap.size ≤ b; exact Nat.not_le.mpr hex.2.2.2.1) hh.2.2 (jin_e (jin_n hq hL)) d ?_
  rw [nI_cl (by omega)]
  exact kk p e s m args below meth c H locs ls hx hb hm ho ht hex hl hh
theorem jl_len (d : decode cL_law pc = .ok (.arraylength, 1)) (hn : pc + 1 = n) (kk : LG l D ci ad t b Ln xs n L (.int (nI Ln) :: st) w) : LG l D ci ad t b Ln xs pc L (.ref b :: st) w := by
  subst hn
  intro p e s m args below meth c H locs ls hx hb hm ho ht hex hl hh
  exact va_slen hx hb hex.2.2.1 hex.2.2.2.1 (A := fun q => s.heap.size ≤ q) (by show ¬ s.heap.size ≤ b; exact Nat.not_le.mpr hex.2.2.2.1) hh.2.2 d (kk p e s m args below meth c H locs ls hx hb hm ho ht hex hl hh)
theorem jl_ret (d : decode cL_law pc = .ok (.ireturn, 1)) : LG l D ci ad t b Ln xs pc L [.int 1] w := by
  intro p e s m args below meth c H locs ls hx hb hm ho ht hex hl hh
  refine va_forget (fun q hq => hh.2.2.2.2 q hq) ?_
  intro T hT X
  obtain ⟨fs, hret, hrun, hended, hW, hframe⟩ := X.leave (v := some (.int 1)) (hlocks := hex.2.1) (fun h => by rw [hex.1] at h; cases h)
  have hmeth' : T.vm.method? m = some meth := X.method'
  have hr := hex.1
  refine ⟨T.setFrames fs, ?_, .returned (some (.int 1)), hrun, hended, rfl, ⟨_, rfl⟩, hW, hframe⟩
  jvm_step X.here [X.here.top, hx, hb, d, hmeth', hr, ret, narrow_b1]
  (try refine ⟨rfl, ?_⟩); (try refine ⟨rfl, ?_⟩)
  first | (intro acts; rw [hret _ acts rfl rfl rfl]) | rw [hret _ _ rfl rfl rfl]
  exact Steps.refl _
theorem jl_run {E : jx_E} {p : Program} {e : Env} {s : State} {m : MethodId} {args : Array Value} {below : List Frame} {meth : Method} {c : Code} {H : Heap} {locs : List Loc} {ls : Array Slot} {a : Array Value} {rv : Option Value} {M1 : jx_M} {QQ : State → Prop} {stk : List Value} (hr : va_Run p E.1 e room_1 s m args below meth c H locs 74 2701 0 0 (F0 m pc ls stk) st (jQ E (fun v M'' => v = rv ∧ M'' = M1) a) (jA E)) (hE : ∀ q, jA E q → s.heap.size ≤ q) (hS : va_S (fun q => s.heap.size ≤ q) s.heap H locs) (kk : ∀ (H1 : Heap) (locs1 : List Loc), jH E M1 H1 → (∀ q : Nat, q < H.size → ¬ jA E q → H1[q]? = H[q]?) → va_S (fun q => s.heap.size ≤ q) s.heap H1 locs1 → W p E.1 e room_1 s m args below meth c H1 locs1 74 2701 QQ (F0 m (pc + 3) ls (rv.toList ++ st))) : W p E.1 e room_1 s m args below meth c H locs 74 2701 QQ (F0 m pc ls stk) := by
  intro T hT X
  obtain ⟨v, st₀, t, T', L, h0, X', hL, e1, e2, ⟨⟨r, M2, hv, ⟨hp1, hp2⟩, hb1, hb2⟩, hz, hk⟩, hst⟩ := hr T hT X
  cases hv
  subst hp1
  subst hp2
  rw [h0] at hz hk
  obtain ⟨t2, a1, b1⟩ := kk T'.heap (locs ++ L) (by rw [e1]; exact hb1) (fun q h1 h2 => by rw [e1]; exact hk q h1 h2)
    ⟨Nat.le_trans hS.1 (by rw [e1]; exact hz), fun q h1 h2 => by rw [e1, hk q (Nat.lt_of_lt_of_le h1 hS.1) (fun z => h2 (hE q z))]; exact hS.2.1 q h1 h2, fun q hq => by
      rcases List.mem_append.mp hq with h | h
      · exact hS.2.2 q h
      · exact hE _ (hL q h)⟩ T' rfl X'
  exact ⟨t2, hst t2 a1, b1⟩
theorem lg_in {w : Cond} (h : w ∈ lw_g) : w ∈ lw_tbl := (List.mem_filter.mp h).1
theorem jlgood {y2 : MethodName} {cc2 : ByteArray} {nL2 : Nat} {ret2 : Option FieldType} (hc : Cond.code y2 cc2 nL2 ret2 ∈ lw_g) : GoodIn lw_tbl (Cond.code y2 cc2 nL2 ret2 :: lw_g) := by
  intro w hw
  have h1 : w ∈ lw_g := by
    rcases List.mem_cons.mp hw with h | h
    · rw [h]; exact hc
    · exact h
  exact ⟨lg_in h1, good_of_word (List.all_eq_true.mp lw_good w h1)⟩
theorem jlcallB {s : State} {args : Array Value} {idx : Nat} {y2 : MethodName} {cc2 : ByteArray} {nL2 : Nat} {ret2 : Option FieldType} {nn : Nat} {R2 : Room} (ht : ∀ w ∈ lw_tbl, w.before args s = true) (hw : jwB R_law idx y2 cc2 nL2 ret2 nn) (hR : jrm room_1 R2 nL2) : CallB room_1 s args R_law idx y2 cc2 nL2 ret2 (Cond.code y2 cc2 nL2 ret2 :: lw_g) R2 0 0 nn :=
  callB_of nn ht (jlgood hw.2.1) rfl hR.1 hR.2.1 (ht _ (lg_in hw.2.2.1)) (ht _ (lg_in hw.1)) hw.2.2.2 hR.2.2
theorem jl_c {idx : Nat} {y2 : MethodName} {cc2 : ByteArray} {nL2 : Nat} {ret2 : Option FieldType} {nn : Nat} {R2 : Room} {v : Value} {c0 c1 m0 : jx_M} {as stk : List Value} (hC : jC (eC l D ci ad t) y2 cc2 nL2 ret2 R2 (.ref (ad 0 0) :: as) c0 (fun z M'' => z = some v ∧ M'' = c1)) (hw : jwB R_law idx y2 cc2 nL2 ret2 nn) (hw2 : Cond.instanceMethod y2 ∈ lw_g ∧ Cond.selects RX5 y2 y2 ∈ lw_g) (hR : jrm room_1 R2 nL2) (hlen : as.length = nn) (hs : as.reverse ++ .ref (ad 0 0) :: st = stk) (hcat : (st.map fun v => v.category).sum ≤ 8) (d : decode cL_law pc = .ok (.invokevirtual idx, 3)) (hn : pc + 3 = n) (kk : LG l D ci ad t b Ln xs n L (v :: st) (c1, m0)) : LG l D ci ad t b Ln xs pc L stk (c0, m0) := by
  subst hn
  intro p e s m args below meth c H locs ls hx hb hm ho ht hex hl hh
  have hB0 := jlcallB (s := s) (args := args) ht hw hR
  obtain ⟨x1, x2, x3, x4, x5, x6, x7⟩ := id hex
  refine jl_run (E := eC l D ci ad t) (rv := some v) (va_runV (C := RX5) (b := ad 0 0) (As := as) (rest := st) (Ts := lw_tbl) (own := R_law) ⟨hx, hb, hm, ho, ht⟩ hC ⟨hB0, ht _ (lg_in hw2.1), ht _ (lg_in hw2.2)⟩ ⟨jC.blind, ?_, fun U hU hW => ⟨rfl, by rw [hU]; exact hh.1, x5.go x6.1 hW.alike hh.2.2 hU⟩⟩ rfl hlen hl.1 hs.symm (lv_room hcat) d ⟨Nat.le_refl _, Nat.le_refl _⟩) x6.1 hh.2.2 (fun H1 locs1 hH1 hk1 hS1 => kk p e s m args below meth c H1 locs1 ls hx hb hm ho ht hex hl ⟨hH1, hh.2.1.kept (fun q h1 h2 => hk1 q h1 (fun z => x6.2 q z h2)), hS1⟩)
  obtain ⟨cell, q1, q2, q3, q4⟩ := hh.1.2.1 0 (show (0 : Nat) < 8 by decide)
  obtain ⟨hS, hfc, kC, hkC, hkind⟩ := x5.1.1 5 (RX5, TX5, 15) jcl5.1
  exact ⟨cell, q1, by rw [q3]; rfl, by rw [q2]; exact hfc⟩
theorem jl_m {idx : Nat} {y2 : MethodName} {cc2 : ByteArray} {nL2 : Nat} {ret2 : Option FieldType} {nn : Nat} {R2 : Room} {v : Value} {c0 m0 m1 : jx_M} {as stk : List Value} (hC : jC (eM l D ci ad t) y2 cc2 nL2 ret2 R2 (.ref (ad 8 0) :: as) m0 (fun z M'' => z = some v ∧ M'' = m1)) (hw : jwB R_law idx y2 cc2 nL2 ret2 nn) (hw2 : Cond.instanceMethod y2 ∈ lw_g ∧ Cond.selects RX6 y2 y2 ∈ lw_g) (hR : jrm room_1 R2 nL2) (hlen : as.length = nn) (hs : as.reverse ++ .ref (ad 8 0) :: st = stk) (hcat : (st.map fun v => v.category).sum ≤ 8) (d : decode cL_law pc = .ok (.invokevirtual idx, 3)) (hn : pc + 3 = n) (kk : LG l D ci ad t b Ln xs n L (v :: st) (c0, m1)) : LG l D ci ad t b Ln xs pc L stk (c0, m0) := by
  subst hn
  intro p e s m args below meth c H locs ls hx hb hm ho ht hex hl hh
  have hB0 := jlcallB (s := s) (args := args) ht hw hR
  obtain ⟨x1, x2, x3, x4, x5, x6, x7⟩ := id hex
  refine jl_run (E := eM l D ci ad t) (rv := some v) (va_runV (C := RX6) (b := ad 8 0) (As := as) (rest := st) (Ts := lw_tbl) (own := R_law) ⟨hx, hb, hm, ho, ht⟩ hC ⟨hB0, ht _ (lg_in hw2.1), ht _ (lg_in hw2.2)⟩ ⟨jC.blind, ?_, fun U hU hW => ⟨rfl, by rw [hU]; exact hh.2.1, x5.go x7.1 hW.alike hh.2.2 hU⟩⟩ rfl hlen hl.1 hs.symm (lv_room hcat) d ⟨Nat.le_refl _, Nat.le_refl _⟩) x7.1 hh.2.2 (fun H1 locs1 hH1 hk1 hS1 => kk p e s m args below meth c H1 locs1 ls hx hb hm ho ht hex hl ⟨hh.1.kept (fun q h1 h2 => hk1 q h1 (fun z => x7.2 q z h2)), hH1, hS1⟩)
  obtain ⟨cell, q1, q2, q3, q4⟩ := hh.2.1.2.1 8 rfl
  obtain ⟨hS, hfc, kC, hkC, hkind⟩ := x5.1.1 6 (RX6, TX6, 43) jcl6.1
  exact ⟨cell, q1, by rw [q3]; rfl, by rw [q2]; exact hfc⟩
end LR
