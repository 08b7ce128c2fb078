/-! ===== constructors: the world is a list of cells that grows ===== -/
def iN (U : State) : Prop := va_Nw (.methodLinkNest "CenturyPosts" 11 yX1_init "CenturyPosts") U ∧ va_Nw (.methodLinkNest "CenturyPosts" 34 yX3_init "CenturyPosts") U
def iX (D : va_G) (ci : ClassId) (sz : Nat) (s : State) (meth : Method) : Prop := meth.sig.returnType = none ∧ meth.locks = false ∧ meth.name = "<init>" ∧ va_K D vwCl [(ci, .int)] s ∧ s.heap.size = sz ∧ iN s
def iH (D : va_G) (A : Nat → Prop) (w : va_W) (s : State) (H : Heap) (locs : List Loc) : Prop := va_P D vwCl w H ∧ va_D A w ∧ va_S A s.heap H locs
abbrev iB (D : va_G) (ci : ClassId) (A : Nat → Prop) : va_W → State → Prop := fun u t => va_P D vwCl u t.heap ∧ va_K D vwCl [(ci, .int)] t ∧ va_D A u
abbrev JI (l : Launch) (D : va_G) (ci : ClassId) (sz : Nat) (A : Nat → Prop) (P : va_W → Prop) (y : MethodName) (cc : ByteArray) (nL : Nat) (R : Room) (mc ms cells slots pc : Nat) (L : List (Nat × Value)) (st : List Value) (w : va_W) : Prop :=
  jG l R cells slots cc nL y.cls (Cond.code y cc nL none :: lw_g) (iX D ci sz) (iH D A) (fun below args s => MQ below (va_Qv P (iB D ci A) A) args s mc ms A) pc L st w
/-- a constructor's contract -/
def iC (l : Launch) (D : va_G) (ci : ClassId) (sz : Nat) (w0 : va_W) (P : va_W → Prop) (y : MethodName) (cc : ByteArray) (nL : Nat) (R : Room) (mc ms : Nat) (as : List Value) : Prop :=
  Met l y (Cond.code y cc nL none :: lw_g) R (va_Pc as (fun U => U.heap.size = sz ∧ va_P D vwCl w0 U.heap ∧ va_K D vwCl [(ci, .int)] U ∧ va_D (fun _ => True) w0 ∧ iN U)) (va_Qv P (iB D ci (va_A w0 sz)) (va_A w0 sz)) mc ms (va_A w0 sz)
section JI
variable {l : Launch} {D : va_G} {ci : ClassId} {sz : Nat} {A : Nat → Prop} {P : va_W → Prop} {y : MethodName} {cc : ByteArray} {nL : Nat} {R : Room} {mc ms cells slots pc n : Nat} {L : List (Nat × Value)} {st : List Value} {w w' : va_W}
theorem iC.ofJ {w0 : va_W} {as : List Value} (hy : plainName y.cls = true) (hin : y.name = "<init>") (hlen : (lg_sl as).length ≤ nL) (hL : lv_args 0 as = L) (h : JI l D ci sz (va_A w0 sz) P y cc nL R mc ms 0 0 0 L [] w0) : iC l D ci sz w0 P y cc nL R mc ms as := by
  refine Met.ofW (cc := cc) (maxL := nL) (ret := none) hy rfl ?_
  intro p e s m args below meth c s₁ B hml hv
  obtain ⟨rfl, hsz, hP, hK, hD, hN⟩ := hv
  have hl := lv_entry as (n := nL) hlen
  rw [lg_entry_eq]
  rw [hL] at hl
  exact h p e s m _ below meth c s.heap [] _ B.exec B.bytes hml (findClass_of_methodNamed B.named) (atoms_spec (ws := Cond.code y cc nL none :: lw_g) B.pre) ⟨B.returns, B.notSynchronized, (name_of_methodNamed B.named B.method).1.trans hin, hK, hsz, hN⟩ hl ⟨hP, hD.self, va_S.rf⟩
theorem ji_ret (hP : P w) (d : decode cc pc = .ok (.return_, 1)) : JI l D ci sz A P y cc nL R mc ms mc ms pc L [] w := by
  intro p e s m args below meth c H locs ls hx hb hm ho ht hex hl hh
  exact W.vret hx hb hex.1 (fun t ht hW => ⟨⟨w, rfl, hP, by rw [ht]; exact hh.1, va_K.moved hW.alike hex.2.2.2.1, hh.2.1⟩, hh.2.2.F ht⟩) hh.2.2.2.2 d hex.2.1
theorem lw_oi : Cond.instanceMethod Lib.objectInit ∈ lw_g := lw_g_of 68 (by decide +kernel) (by decide +kernel)
theorem lw_oc : Cond.code Lib.objectInit ⟨#[0xb1]⟩ 1 none ∈ lw_g := lw_g_of 69 (by decide +kernel) (by decide +kernel)
theorem lw_ac : Cond.arrayClass .int ∈ lw_g := lw_g_of 110 (by decide +kernel) (by decide +kernel)
theorem ji_obj {idx a : Nat} (hlink : Cond.methodLink y.cls idx Lib.objectInit ∈ lw_g) (hfr : 1 ≤ R.frames) (hlo : (st.map fun v => v.category).sum + 12 ≤ R.locals) (d : decode cc pc = .ok (.invokespecial idx, 3)) (hn : pc + 3 = n) (kk : JI l D ci sz A P y cc nL R mc ms cells slots n L st w) : JI l D ci sz A P y cc nL R mc ms cells slots pc L (.ref a :: st) w := by
  subst hn
  intro p e s m args below meth c H locs ls hx hb hm ho ht hex hl hh
  refine W.objInit hx hb ho (ht _ (List.mem_cons_of_mem _ hlink)) (ht _ (List.mem_cons_of_mem _ lw_oi)) (ht _ (List.mem_cons_of_mem _ lw_oc)) rfl (by rw [hm]; exact hl.1) rfl d hfr (by
    show 2 * 0 + _ + 12 ≤ _
    omega) ?_
  exact kk p e s m args below meth c H locs ls hx hb hm ho ht hex hl hh
theorem ji_newa {v : Int32} {N : Nat} (hA : ∀ q, sz ≤ q → A q) (hv : v = nI N) (hN : N ≤ 1000) (hc : cells + 1 ≤ R.cells) (hs : slots + N ≤ R.slots) (d : decode cc pc = .ok (.newarray .int, 2)) (hn : pc + 2 = n) (kk : ∀ q, JI l D ci sz A P y cc nL R mc ms (cells + 1) (slots + N) n L (.ref q :: st) (w ++ [(q, .inl (ci, N, .inl fun _ => 0))])) : JI l D ci sz A P y cc nL R mc ms cells slots pc L (.int v :: st) w := by
  subst hn
  subst hv
  intro p e s m args below meth c H locs ls hx hb hm ho ht hex hl hh
  refine va_newa hx hb (atype := .int) (ht _ (List.mem_cons_of_mem _ lw_ac)) (ty := .int) rfl hex.2.2.2.1 hh.1 hh.2.1 hh.2.2 (fun q h => hA q (by rw [← hex.2.2.2.2.1]; exact h)) (N' := N) (a0 := (N, .inl fun _ => 0)) (fun _ => rfl) (fun z => by have := (jlt0 _).mp z; rw [nI_toInt (by omega)] at this; omega) (nI_cl (by omega)) (by show N * 4 ≤ _; omega) hc hs d (fun q cA H1 hK1 hP1 hD1 hS1 => ?_)
  have e1 : s.vm.findClass ("[" ++ (FieldType.int).toString) = some cA := (hK1.2 1 (cA, .int) rfl).2
  have e2 : s.vm.findClass ("[" ++ (FieldType.int).toString) = some ci := (hK1.2 0 (ci, .int) rfl).2
  have e3 : cA = ci := Option.some.inj (e1.symm.trans e2)
  subst e3
  exact kk q p e s m args below meth c H1 locs ls hx hb hm ho ht hex hl ⟨hP1, hD1, hS1⟩
theorem ji_put {cj : Nat} {C : String} {T : u_T} {N : Nat} {ty : Nat → FieldType} (hcl : jcl cj C T N ty) {idx a : Nat} {v : Value} {fs : List Value} (q0 k : Nat) (he : w[q0]? = some (a, .inr (cj, fs))) (hk : k < N) (hlink : Cond.fieldLink y.cls idx (T k).1 (T k).2.1 (T k).2.2.1 ∈ lw_g) (hfin : (T k).2.2.2 = false) (hf : narrow (ty k) v = v ∧ fits (ty k) v = true) (hl0 : k < fs.length) (hw : w.set q0 (a, .inr (cj, fs.set k v)) = w') (d : decode cc pc = .ok (.putfield idx, 3)) (hn : pc + 3 = n) (kk : JI l D ci sz A P y cc nL R mc ms cells slots n L st w') : JI l D ci sz A P y cc nL R mc ms cells slots pc L (v :: .ref a :: st) w := by
  subst hn
  subst hw
  intro p e s m args below meth c H locs ls hx hb hm ho ht hex hl hh
  obtain ⟨h1, h2, h3, h4, h5⟩ := hcl
  exact va_put hx hb ht (fun w h => List.mem_cons_of_mem _ (h3 w h)) ty h4 h5 ho hex.2.2.2.1 hh.1 hh.2.1 hh.2.2 q0 he h1 k hk (ht _ (List.mem_cons_of_mem _ hlink)) (fun _ h => h) hfin (h4 k hk) hf.1 hf.2 hl0 d (fun H1 locs1 hP1 hD1 hS1 => kk p e s m args below meth c H1 locs1 ls hx hb hm ho ht hex hl ⟨hP1, hD1, hS1⟩)
theorem ji_putF {cj : Nat} {C : String} {T : u_T} {N : Nat} {ty : Nat → FieldType} (hcl : jcl cj C T N ty) {idx a : Nat} {v : Value} {fs : List Value} (q0 k : Nat) (he : w[q0]? = some (a, .inr (cj, fs))) (hk : k < N) (hlink : Cond.fieldLink y.cls idx (T k).1 (T k).2.1 (T k).2.2.1 ∈ lw_g) (hfin : (T k).2.2.2 = true) (hdecl : (T k).1 = y.cls) (hf : narrow (ty k) v = v ∧ fits (ty k) v = true) (hl0 : k < fs.length) (hw : w.set q0 (a, .inr (cj, fs.set k v)) = w') (d : decode cc pc = .ok (.putfield idx, 3)) (hn : pc + 3 = n) (kk : JI l D ci sz A P y cc nL R mc ms cells slots n L st w') : JI l D ci sz A P y cc nL R mc ms cells slots pc L (v :: .ref a :: st) w := by
  subst hn
  subst hw
  intro p e s m args below meth c H locs ls hx hb hm ho ht hex hl hh
  obtain ⟨h1, h2, h3, h4, h5⟩ := hcl
  exact va_putF hx hb ht (fun w h => List.mem_cons_of_mem _ (h3 w h)) ty h4 h5 ho hex.2.2.2.1 hh.1 hh.2.1 hh.2.2 q0 he h1 k hk (ht _ (List.mem_cons_of_mem _ hlink)) (fun _ h => h) hfin hex.2.2.1 hdecl (h4 k hk) hf.1 hf.2 hl0 d (fun H1 locs1 hP1 hD1 hS1 => kk p e s m args below meth c H1 locs1 ls hx hb hm ho ht hex hl ⟨hP1, hD1, hS1⟩)
theorem ji_get {cj : Nat} {C : String} {T : u_T} {N : Nat} {ty : Nat → FieldType} (hcl : jcl cj C T N ty) {idx a : Nat} {v : Value} {fs : List Value} (q0 k : Nat) (he : w[q0]? = some (a, .inr (cj, fs))) (hk : k < N) (hlink : Cond.fieldLink y.cls idx (T k).1 (T k).2.1 (T k).2.2.1 ∈ lw_g) (hv : fs[k]? = some v) (d : decode cc pc = .ok (.getfield idx, 3)) (hn : pc + 3 = n) (kk : JI l D ci sz A P y cc nL R mc ms cells slots n L (v :: st) w) : JI l D ci sz A P y cc nL R mc ms cells slots pc L (.ref a :: st) w := by
  subst hn
  intro p e s m args below meth c H locs ls hx hb hm ho ht hex hl hh
  obtain ⟨h1, h2, h3, h4, h5⟩ := hcl
  exact va_get hx hb ht (fun w h => List.mem_cons_of_mem _ (h3 w h)) ho hex.2.2.2.1 hh.1 q0 he h1 k hk (ht _ (List.mem_cons_of_mem _ hlink)) (fun _ h => h) hv d (kk p e s m args below meth c H locs ls hx hb hm ho ht hex hl hh)
end JI
