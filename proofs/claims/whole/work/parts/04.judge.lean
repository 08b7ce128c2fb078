def lw_g : List Cond := lw_tbl.filter goodWord
theorem lw_g_of {w : Cond} (i : Nat) (h : lw_tbl[i]? = some w) (hg : goodWord w = true) : w ∈ lw_g := List.mem_filter.mpr ⟨List.mem_of_getElem? h, hg⟩
theorem lw_g_in (ws : List Cond) (ps : List Nat) (hp : ws = ps.filterMap (fun i => lw_tbl[i]?)) (h : ws.all goodWord = true) : ∀ w ∈ ws, w ∈ lw_g := by
  intro w hw
  have h1 := List.all_eq_true.mp h w hw
  rw [hp] at hw
  obtain ⟨i, -, hi⟩ := List.mem_filterMap.mp hw
  exact lw_g_of i hi h1
/-! ===== the memory of the system: objects by number, fields by number, places ===== -/
abbrev jx_M : Type := Nat → Nat → Nat → Int32
def jx_set (M : jx_M) (o k : Nat) (f : Nat → Int32) : jx_M := fun o' k' => if o' = o ∧ k' = k then f else M o' k'
theorem jx_set_s (M : jx_M) (o k : Nat) (f : Nat → Int32) : jx_set M o k f o k = f := by simp [jx_set]
theorem jx_set_n {M : jx_M} {o k o' k' : Nat} {f : Nat → Int32} (h : ¬ (o' = o ∧ k' = k)) : jx_set M o k f o' k' = M o' k' := by simp [jx_set, h]
/-- a place of an array; a place, or a field, written -/
def jx_r (M : jx_M) (o k : Nat) (i : Int32) : Int32 := M o k i.toNatClampNeg
def jx_w (M : jx_M) (o k : Nat) (i v : Int32) : jx_M := jx_set M o k (upd (M o k) i.toNatClampNeg v)
def jx_p (M : jx_M) (o k : Nat) (v : Int32) : jx_M := jx_set M o k (fun _ => v)
def jx_c (o : Nat) : Nat := match o with
  | 0 => 5
  | 1 => 4
  | 2 => 1
  | 3 => 2
  | 4 => 3
  | 5 => 0
  | 6 => 2
  | 7 => 0
  | _ => 6
def jx_n (c : Nat) : Nat := match c with
  | 0 => 14
  | 1 => 7
  | 2 => 7
  | 3 => 4
  | 4 => 3
  | 5 => 15
  | _ => 43
/-- a field: 0 a number, 1 an array, 2 an object -/
def jx_k (c k : Nat) : Nat := match c, k with
  | 0, 0 => 1
  | 0, 3 => 2
  | 0, 4 => 1
  | 0, 5 => 1
  | 0, 6 => 1
  | 0, 7 => 1
  | 0, 8 => 1
  | 0, 9 => 1
  | 0, 10 => 1
  | 1, 2 => 1
  | 1, 3 => 1
  | 1, 4 => 1
  | 1, 5 => 1
  | 1, 6 => 1
  | 2, 3 => 1
  | 2, 4 => 1
  | 2, 5 => 1
  | 2, 6 => 1
  | 3, 1 => 1
  | 3, 2 => 1
  | 3, 3 => 1
  | 4, 0 => 1
  | 4, 1 => 1
  | 4, 2 => 1
  | 5, 0 => 2
  | 5, 1 => 2
  | 5, 2 => 2
  | 5, 3 => 2
  | 5, 4 => 2
  | 5, 5 => 2
  | 5, 6 => 2
  | 5, 7 => 1
  | 6, 3 => 1
  | 6, 4 => 1
  | 6, 5 => 1
  | 6, 6 => 1
  | 6, 7 => 1
  | 6, 10 => 1
  | 6, 14 => 1
  | 6, 15 => 1
  | 6, 16 => 1
  | 6, 17 => 1
  | 6, 18 => 1
  | 6, 20 => 1
  | 6, 21 => 1
  | 6, 22 => 1
  | 6, 23 => 1
  | 6, 24 => 1
  | 6, 25 => 1
  | 6, 26 => 1
  | 6, 27 => 1
  | 6, 31 => 1
  | 6, 32 => 1
  | 6, 33 => 1
  | 6, 35 => 1
  | 6, 36 => 1
  | 6, 37 => 1
  | 6, 38 => 1
  | 6, 39 => 1
  | 6, 40 => 1
  | 6, 41 => 1
  | _, _ => 0
def jx_l (c k : Nat) : Nat := match c, k with
  | 0, 0 => 40
  | 0, 4 => 160
  | 0, 5 => 160
  | 0, 6 => 240
  | 0, 7 => 240
  | 0, 8 => 4
  | 0, 9 => 4
  | 0, 10 => 6
  | 1, 2 => 6
  | 1, 3 => 6
  | 1, 4 => 6
  | 1, 5 => 6
  | 1, 6 => 6
  | 2, 3 => 4
  | 2, 4 => 7
  | 2, 5 => 7
  | 2, 6 => 7
  | 3, 1 => 8
  | 3, 2 => 8
  | 3, 3 => 8
  | 4, 0 => 4
  | 4, 1 => 4
  | 4, 2 => 240
  | 5, 7 => 64
  | 6, 3 => 6
  | 6, 4 => 6
  | 6, 5 => 6
  | 6, 6 => 6
  | 6, 7 => 6
  | 6, 10 => 4
  | 6, 14 => 6
  | 6, 15 => 6
  | 6, 16 => 6
  | 6, 17 => 6
  | 6, 18 => 6
  | 6, 20 => 7
  | 6, 21 => 7
  | 6, 22 => 7
  | 6, 23 => 6
  | 6, 24 => 6
  | 6, 25 => 6
  | 6, 26 => 6
  | 6, 27 => 4
  | 6, 31 => 6
  | 6, 32 => 6
  | 6, 33 => 6
  | 6, 35 => 8
  | 6, 36 => 8
  | 6, 37 => 8
  | 6, 38 => 4
  | 6, 39 => 4
  | 6, 40 => 240
  | 6, 41 => 60
  | _, _ => 0
def jx_s (c k : Nat) : Nat := match c, k with
  | 0, 3 => 2
  | 5, 0 => 1
  | 5, 1 => 2
  | 5, 2 => 3
  | 5, 3 => 4
  | 5, 4 => 5
  | 5, 5 => 6
  | 5, 6 => 7
  | _, _ => 0
/-- the surroundings: launch, class numbers and slots, the number of int[], the addresses, which objects are there, the table of letters -/
abbrev jx_E : Type := Launch × va_G × ClassId × (Nat → Nat → Nat) × (Nat → Prop) × Nat
def ja (E : jx_E) (o j : Nat) : Nat := E.2.2.2.1 o j
def jB (E : jx_E) (o : Nat) : Prop := E.2.2.2.2.1 o
def jt (E : jx_E) : Nat := E.2.2.2.2.2
def jx_v (E : jx_E) (M : jx_M) (c o k : Nat) : Value := match jx_k c k with
  | 0 => .int (M o k 0)
  | 1 => .ref (ja E o (k + 1))
  | _ => .ref (ja E (jx_s c k) 0)
def jx_lt (j : Nat) : Int32 := match j with
  | 0 => 100
  | 1 => 104
  | _ => 101
def jvld (E : jx_E) (o j : Nat) : Prop := jB E o ∧ (j = 0 ∨ ∃ k, j = k + 1 ∧ k < jx_n (jx_c o) ∧ jx_k (jx_c o) k = 1)
def jA (E : jx_E) (q : Nat) : Prop := ∃ o j, jvld E o j ∧ q = ja E o j
def jDis (E : jx_E) : Prop := ∀ o j o' j', jvld E o j → jvld E o' j' → ja E o j = ja E o' j' → o = o' ∧ j = j'
def jH (E : jx_E) (M : jx_M) (H : Heap) : Prop := jDis E ∧ (∀ o, jB E o → t_OB (ja E o 0) (E.2.1.1 (jx_c o)) (jx_n (jx_c o)) (E.2.1.2 (jx_c o)) H (fun k => jx_v E M (jx_c o) o k)) ∧ (∀ o k, jB E o → k < jx_n (jx_c o) → jx_k (jx_c o) k = 1 → H[ja E o (k + 1)]? = some (vp_cell E.2.2.1 (jx_l (jx_c o) k, .inl (M o k))))
def jK (E : jx_E) (U : State) : Prop := va_K E.2.1 vwCl [(E.2.2.1, .int)] U ∧ va_Z "CenturyPosts$Land" "LETTERS" "[I" (.ref (jt E)) (jA E) U U.heap ∧ va_T .int (jt E) 3 (fun j => .int (jx_lt j)) (jA E) U U.heap
theorem jvld0 {E : jx_E} {o : Nat} (h : jB E o) : jvld E o 0 := ⟨h, Or.inl rfl⟩
theorem jvld1 {E : jx_E} {o k : Nat} (h : jB E o) (h1 : k < jx_n (jx_c o)) (h2 : jx_k (jx_c o) k = 1) : jvld E o (k + 1) := ⟨h, Or.inr ⟨k, rfl, h1, h2⟩⟩
theorem jA.of {E : jx_E} {o j : Nat} (h : jvld E o j) : jA E (ja E o j) := ⟨o, j, h, rfl⟩
theorem jK.moved {E : jx_E} {s U : State} (h : jK E s) (hvm : s.vm.Alike U.vm) (hh : U.heap = s.heap) : jK E U :=
  ⟨va_K.moved hvm h.1, by rw [hh]; exact va_Z.moved hvm h.2.1, by rw [hh]; exact va_T.moved hvm h.2.2⟩
theorem jK.go {E : jx_E} {s U : State} {H : Heap} {locs : List Loc} (h : jK E s) (hvm : s.vm.Alike U.vm) (hS : va_S (jA E) s.heap H locs) (hU : U.heap = H) : jK E U :=
  ⟨va_K.moved hvm h.1, by rw [hU]; exact va_Z.moved hvm (h.2.1.kept hS.2.1), by rw [hU]; exact va_T.moved hvm (h.2.2.kept hS.2.1)⟩
def jQ (E : jx_E) (Q : Option Value → jx_M → Prop) : Array Value → State → Outcome → State → Prop := fun _ st oc t => (∃ (r : Option Value) (M' : jx_M), oc = .returned r ∧ Q r M' ∧ jH E M' t.heap ∧ jK E t) ∧ va_F (jA E) st t
/-- a method's contract over the whole world -/
def jC (E : jx_E) (y : MethodName) (cc : ByteArray) (nL : Nat) (ret : Option FieldType) (R : Room) (as : List Value) (M : jx_M) (Q : Option Value → jx_M → Prop) : Prop :=
  Met E.1 y (Cond.code y cc nL ret :: lw_g) R (va_Pc as (fun U => jH E M U.heap ∧ jK E U)) (jQ E Q) 0 0 (jA E)
def jG {σ : Type} (l : Launch) (R : Room) (cells slots : Nat) (cc : ByteArray) (nL : Nat) (own : String) (Ts : List Cond) (ex : State → Method → Prop) (hd : σ → State → Heap → List Loc → Prop) (Z : List Frame → Array Value → State → State → Prop) (pc : Nat) (L : List (Nat × Value)) (st : List Value) (w : σ) : Prop :=
  ∀ (p : Program) (e : Env) (s : State) (m : MethodId) (args : Array Value) (below : List Frame) (meth : Method) (c : Code) (H : Heap) (locs : List Loc) (ls : Array Slot),
    p.tables.exec = Jvm.exec → c.code = cc → c.maxLocals = nL → s.vm.findClass own = some m.cls → (∀ w ∈ Ts, w.before args s = true) → ex s meth → lv_has ls nL L → hd w s H locs →
    W p l e R s m args below meth c H locs cells slots (Z below args s) (F0 m pc ls st)
abbrev jJ (E : jx_E) (y : MethodName) (cc : ByteArray) (nL : Nat) (ret : Option FieldType) (R : Room) (Q : Option Value → jx_M → Prop) (pc : Nat) (L : List (Nat × Value)) (st : List Value) (M : jx_M) : Prop :=
  jG E.1 R 0 0 cc nL y.cls (Cond.code y cc nL ret :: lw_g) (fun s meth => meth.sig.returnType = ret ∧ meth.locks = false ∧ jK E s) (fun M s H locs => jH E M H ∧ va_S (jA E) s.heap H locs) (fun below args s => MQ below (jQ E Q) args s 0 0 (jA E)) pc L st M
/-- a method's entry -/
theorem jC.ofJ {E : jx_E} {y : MethodName} {cc : ByteArray} {nL : Nat} {ret : Option FieldType} {R : Room} {as : List Value} {M : jx_M} {Q : Option Value → jx_M → Prop} {L : List (Nat × Value)} (hy : plainName y.cls = true) (hlen : (lg_sl as).length ≤ nL) (hL : lv_args 0 as = L) (h : jJ E y cc nL ret R Q 0 L [] M) : jC E y cc nL ret R as M Q := by
  refine Met.ofW (cc := cc) (maxL := nL) (ret := ret) hy rfl ?_
  intro p e s m args below meth c s₁ B hml hv
  obtain ⟨rfl, hH, hK⟩ := hv
  have hl := lv_entry as (n := nL) hlen
  rw [lg_entry_eq]
  rw [hL] at hl
  exact h p e s m _ below meth c s.heap [] _ B.exec B.bytes hml (findClass_of_methodNamed B.named) (atoms_spec (ws := Cond.code y cc nL ret :: lw_g) B.pre) ⟨B.returns, B.notSynchronized, hK⟩ hl ⟨hH, va_S.rf⟩
/-! the functional side: a name, a test, a call -/
def jlet {α β : Type} (a : α) (f : α → β) : β := f a
theorem jlet_e {α β : Type} {a : α} {f : α → β} {y : β} (h : jlet a f = y) (x : α) (hx : x = a) : f x = y := by subst hx; exact h
def jck {α : Type} (b : Bool) (x : Option α) : Option α := match b with
  | true => x
  | false => none
theorem jck_e {α : Type} {b : Bool} {x : Option α} {y : α} (h : jck b x = some y) : b = true ∧ x = some y := by
  cases b
  · cases h
  · exact ⟨rfl, h⟩
def jbd {α β : Type} (x : Option (α × jx_M)) (f : α → jx_M → Option β) : Option β := match x with
  | some q => f q.1 q.2
  | none => none
theorem jbd_e {α β : Type} {x : Option (α × jx_M)} {f : α → jx_M → Option β} {y : β} (h : jbd x f = some y) : ∃ r M1, x = some (r, M1) ∧ f r M1 = some y := by
  cases x with
  | none => cases h
  | some q => exact ⟨q.1, q.2, rfl, h⟩
theorem jif_p {α : Type} {c : Prop} [Decidable c] {a b y : α} (h : (if c then a else b) = y) (hc : c) : a = y := by rw [if_pos hc] at h; exact h
theorem jif_n {α : Type} {c : Prop} [Decidable c] {a b y : α} (h : (if c then a else b) = y) (hc : ¬ c) : b = y := by rw [if_neg hc] at h; exact h
def jin (i : Int32) (n : Nat) : Bool := decide (0 ≤ i.toInt) && decide (i.toInt < n)
theorem jin_e {i : Int32} {n : Nat} (h : jin i n = true) : vp_in i n := by
  simp only [jin, Bool.and_eq_true, decide_eq_true_eq] at h
  exact vp_in_iff.mpr h
theorem jin_2 {v : Int32} (h : jin v 2 = true) : v = 0 ∨ v = 1 := by
  obtain ⟨j, hj, rfl⟩ := vp_in_of (jin_e h) (by decide)
  rcases (show j = 0 ∨ j = 1 by omega) with rfl | rfl
  · exact Or.inl rfl
  · exact Or.inr rfl
section JR
variable {σ : Type} {l : Launch} {R : Room} {cells slots : Nat} {cc : ByteArray} {nL : Nat} {own : String} {Ts : List Cond} {ex : State → Method → Prop} {hd : σ → State → Heap → List Loc → Prop} {Z : List Frame → Array Value → State → State → Prop} {pc n : Nat} {L L' : List (Nat × Value)} {st : List Value} {w : σ}

theorem jr_iconst {z : Int} {v : Int32} (d : decode cc pc = .ok (.iconst z, 1)) (hv : Int32.ofInt z = v) (hn : pc + 1 = n) (kk : jG l R cells slots cc nL own Ts ex hd Z n L (.int v :: st) w) : jG l R cells slots cc nL own Ts ex hd Z pc L st w := by
  subst hn
  intro p e s m args below meth c H locs ls hx hb hm ho ht hex hl hh
  exact lv_iconst hx hb d hv (kk p e s m args below meth c H locs ls hx hb hm ho ht hex hl hh)
theorem jr_bipush {z : Int} {v : Int32} (d : decode cc pc = .ok (.bipush z, 2)) (hv : (Int8.ofInt z).toInt32 = v) (hn : pc + 2 = n) (kk : jG l R cells slots cc nL own Ts ex hd Z n L (.int v :: st) w) : jG l R cells slots cc nL own Ts ex hd Z pc L st w := by
  subst hn
  intro p e s m args below meth c H locs ls hx hb hm ho ht hex hl hh
  exact lv_bipush hx hb d hv (kk p e s m args below meth c H locs ls hx hb hm ho ht hex hl hh)
theorem jr_sipush {z : Int} {v : Int32} (d : decode cc pc = .ok (.sipush z, 3)) (hv : (Int16.ofInt z).toInt32 = v) (hn : pc + 3 = n) (kk : jG l R cells slots cc nL own Ts ex hd Z n L (.int v :: st) w) : jG l R cells slots cc nL own Ts ex hd Z pc L st w := by
  subst hn
  intro p e s m args below meth c H locs ls hx hb hm ho ht hex hl hh
  exact lv_sipush hx hb d hv (kk p e s m args below meth c H locs ls hx hb hm ho ht hex hl hh)
theorem jr_lconst {z : Fin 2} {v : Int64} (d : decode cc pc = .ok (.lconst z, 1)) (hv : Int64.ofNat (z : Nat) = v) (hn : pc + 1 = n) (kk : jG l R cells slots cc nL own Ts ex hd Z n L (.long v :: st) w) : jG l R cells slots cc nL own Ts ex hd Z pc L st w := by
  subst hn
  intro p e s m args below meth c H locs ls hx hb hm ho ht hex hl hh
  exact lv_lconst hx hb d hv (kk p e s m args below meth c H locs ls hx hb hm ho ht hex hl hh)
theorem jr_ldc2 {ix : Nat} {v : Int64} (d : decode cc pc = .ok (.ldc2_w ix, 3)) (hw : Cond.constantLong own ix v ∈ Ts) (hn : pc + 3 = n) (kk : jG l R cells slots cc nL own Ts ex hd Z n L (.long v :: st) w) : jG l R cells slots cc nL own Ts ex hd Z pc L st w := by
  subst hn
  intro p e s m args below meth c H locs ls hx hb hm ho ht hex hl hh
  exact lv_ldc2 hx hb ho (ht _ hw) d (kk p e s m args below meth c H locs ls hx hb hm ho ht hex hl hh)
theorem jr_ldcw {ix : Nat} {v : Int32} (d : decode cc pc = .ok (.ldc_w ix, 3)) (hw : Cond.constant own ix v ∈ Ts) (hn : pc + 3 = n) (kk : jG l R cells slots cc nL own Ts ex hd Z n L (.int v :: st) w) : jG l R cells slots cc nL own Ts ex hd Z pc L st w := by
  subst hn
  intro p e s m args below meth c H locs ls hx hb hm ho ht hex hl hh
  exact lv_ldcw hx hb ho (ht _ hw) d (kk p e s m args below meth c H locs ls hx hb hm ho ht hex hl hh)
theorem jr_iload_n {k : Fin 4} {j : Nat} {x : Int32} (i : Nat) (d : decode cc pc = .ok (.iload_n k, 1)) (hk : (k : Nat) = j) (hi : L[i]? = some (j, .int x)) (hn : pc + 1 = n) (kk : jG l R cells slots cc nL own Ts ex hd Z n L (.int x :: st) w) : jG l R cells slots cc nL own Ts ex hd Z pc L st w := by
  subst hn
  intro p e s m args below meth c H locs ls hx hb hm ho ht hex hl hh
  exact lv_iload_n hx hb d hk (lv_at hl i hi) (kk p e s m args below meth c H locs ls hx hb hm ho ht hex hl hh)
theorem jr_iload {j : Nat} {x : Int32} (i : Nat) (d : decode cc pc = .ok (.iload j, 2)) (hi : L[i]? = some (j, .int x)) (hn : pc + 2 = n) (kk : jG l R cells slots cc nL own Ts ex hd Z n L (.int x :: st) w) : jG l R cells slots cc nL own Ts ex hd Z pc L st w := by
  subst hn
  intro p e s m args below meth c H locs ls hx hb hm ho ht hex hl hh
  exact lv_iload hx hb d (lv_at hl i hi) (kk p e s m args below meth c H locs ls hx hb hm ho ht hex hl hh)
theorem jr_istore_n {k : Fin 4} {j : Nat} {x : Int32} (d : decode cc pc = .ok (.istore_n k, 1)) (hk : (k : Nat) = j) (hj : j < nL) (hL : (j, Value.int x) :: L.filter (fun q => !(q.1 == j) && !(q.1 + 1 == j && q.2.category == 2)) = L') (hn : pc + 1 = n) (kk : jG l R cells slots cc nL own Ts ex hd Z n L' st w) : jG l R cells slots cc nL own Ts ex hd Z pc L (.int x :: st) w := by
  subst hn
  intro p e s m args below meth c H locs ls hx hb hm ho ht hex hl hh
  exact lv_istore_n hx hb d hk hl hj hL (fun ls hl => kk p e s m args below meth c H locs ls hx hb hm ho ht hex hl hh)
theorem jr_istore {j : Nat} {x : Int32} (d : decode cc pc = .ok (.istore j, 2)) (hj : j < nL) (hL : (j, Value.int x) :: L.filter (fun q => !(q.1 == j) && !(q.1 + 1 == j && q.2.category == 2)) = L') (hn : pc + 2 = n) (kk : jG l R cells slots cc nL own Ts ex hd Z n L' st w) : jG l R cells slots cc nL own Ts ex hd Z pc L (.int x :: st) w := by
  subst hn
  intro p e s m args below meth c H locs ls hx hb hm ho ht hex hl hh
  exact lv_istore hx hb d hl hj hL (fun ls hl => kk p e s m args below meth c H locs ls hx hb hm ho ht hex hl hh)
theorem jr_lload_n {k : Fin 4} {j : Nat} {x : Int64} (i : Nat) (d : decode cc pc = .ok (.lload_n k, 1)) (hk : (k : Nat) = j) (hi : L[i]? = some (j, .long x)) (hn : pc + 1 = n) (kk : jG l R cells slots cc nL own Ts ex hd Z n L (.long x :: st) w) : jG l R cells slots cc nL own Ts ex hd Z pc L st w := by
  subst hn
  intro p e s m args below meth c H locs ls hx hb hm ho ht hex hl hh
  exact lv_lload_n hx hb d hk (lv_at hl i hi) (kk p e s m args below meth c H locs ls hx hb hm ho ht hex hl hh)
theorem jr_lload {j : Nat} {x : Int64} (i : Nat) (d : decode cc pc = .ok (.lload j, 2)) (hi : L[i]? = some (j, .long x)) (hn : pc + 2 = n) (kk : jG l R cells slots cc nL own Ts ex hd Z n L (.long x :: st) w) : jG l R cells slots cc nL own Ts ex hd Z pc L st w := by
  subst hn
  intro p e s m args below meth c H locs ls hx hb hm ho ht hex hl hh
  exact lv_lload hx hb d (lv_at hl i hi) (kk p e s m args below meth c H locs ls hx hb hm ho ht hex hl hh)
theorem jr_lstore_n {k : Fin 4} {j : Nat} {x : Int64} (d : decode cc pc = .ok (.lstore_n k, 1)) (hk : (k : Nat) = j) (hj : j + 1 < nL) (hL : (j, Value.long x) :: L.filter (fun q => !(q.1 == j) && (!(q.1 == j + 1) && !(q.1 + 1 == j && q.2.category == 2))) = L') (hn : pc + 1 = n) (kk : jG l R cells slots cc nL own Ts ex hd Z n L' st w) : jG l R cells slots cc nL own Ts ex hd Z pc L (.long x :: st) w := by
  subst hn
  intro p e s m args below meth c H locs ls hx hb hm ho ht hex hl hh
  exact lv_lstore_n hx hb d hk hl hj hL (fun ls hl => kk p e s m args below meth c H locs ls hx hb hm ho ht hex hl hh)
theorem jr_lstore {j : Nat} {x : Int64} (d : decode cc pc = .ok (.lstore j, 2)) (hj : j + 1 < nL) (hL : (j, Value.long x) :: L.filter (fun q => !(q.1 == j) && (!(q.1 == j + 1) && !(q.1 + 1 == j && q.2.category == 2))) = L') (hn : pc + 2 = n) (kk : jG l R cells slots cc nL own Ts ex hd Z n L' st w) : jG l R cells slots cc nL own Ts ex hd Z pc L (.long x :: st) w := by
  subst hn
  intro p e s m args below meth c H locs ls hx hb hm ho ht hex hl hh
  exact lv_lstore hx hb d hl hj hL (fun ls hl => kk p e s m args below meth c H locs ls hx hb hm ho ht hex hl hh)
theorem jr_aload_n {k : Fin 4} {j : Nat} {x : Nat} (i : Nat) (d : decode cc pc = .ok (.aload_n k, 1)) (hk : (k : Nat) = j) (hi : L[i]? = some (j, .ref x)) (hn : pc + 1 = n) (kk : jG l R cells slots cc nL own Ts ex hd Z n L (.ref x :: st) w) : jG l R cells slots cc nL own Ts ex hd Z pc L st w := by
  subst hn
  intro p e s m args below meth c H locs ls hx hb hm ho ht hex hl hh
  exact lv_aload_n hx hb d hk (lv_at hl i hi) (kk p e s m args below meth c H locs ls hx hb hm ho ht hex hl hh)
theorem jr_aload {j : Nat} {x : Nat} (i : Nat) (d : decode cc pc = .ok (.aload j, 2)) (hi : L[i]? = some (j, .ref x)) (hn : pc + 2 = n) (kk : jG l R cells slots cc nL own Ts ex hd Z n L (.ref x :: st) w) : jG l R cells slots cc nL own Ts ex hd Z pc L st w := by
  subst hn
  intro p e s m args below meth c H locs ls hx hb hm ho ht hex hl hh
  exact lv_aload hx hb d (lv_at hl i hi) (kk p e s m args below meth c H locs ls hx hb hm ho ht hex hl hh)
theorem jr_astore_n {k : Fin 4} {j : Nat} {x : Nat} (d : decode cc pc = .ok (.astore_n k, 1)) (hk : (k : Nat) = j) (hj : j < nL) (hL : (j, Value.ref x) :: L.filter (fun q => !(q.1 == j) && !(q.1 + 1 == j && q.2.category == 2)) = L') (hn : pc + 1 = n) (kk : jG l R cells slots cc nL own Ts ex hd Z n L' st w) : jG l R cells slots cc nL own Ts ex hd Z pc L (.ref x :: st) w := by
  subst hn
  intro p e s m args below meth c H locs ls hx hb hm ho ht hex hl hh
  exact lv_astore_n hx hb d hk hl hj hL (fun ls hl => kk p e s m args below meth c H locs ls hx hb hm ho ht hex hl hh)
theorem jr_astore {j : Nat} {x : Nat} (d : decode cc pc = .ok (.astore j, 2)) (hj : j < nL) (hL : (j, Value.ref x) :: L.filter (fun q => !(q.1 == j) && !(q.1 + 1 == j && q.2.category == 2)) = L') (hn : pc + 2 = n) (kk : jG l R cells slots cc nL own Ts ex hd Z n L' st w) : jG l R cells slots cc nL own Ts ex hd Z pc L (.ref x :: st) w := by
  subst hn
  intro p e s m args below meth c H locs ls hx hb hm ho ht hex hl hh
  exact lv_astore hx hb d hl hj hL (fun ls hl => kk p e s m args below meth c H locs ls hx hb hm ho ht hex hl hh)
theorem jr_iinc {j : Nat} {z : Int} {x v : Int32} (i : Nat) (d : decode cc pc = .ok (.iinc j z, 3)) (hi : L[i]? = some (j, .int x)) (hv : x + Int32.ofInt z = v) (hj : j < nL) (hL : (j, Value.int v) :: L.filter (fun q => !(q.1 == j) && !(q.1 + 1 == j && q.2.category == 2)) = L') (hn : pc + 3 = n) (kk : jG l R cells slots cc nL own Ts ex hd Z n L' st w) : jG l R cells slots cc nL own Ts ex hd Z pc L st w := by
  subst hn
  intro p e s m args below meth c H locs ls hx hb hm ho ht hex hl hh
  exact lv_iinc hx hb d hl hi hv hj hL (fun ls hl => kk p e s m args below meth c H locs ls hx hb hm ho ht hex hl hh)
theorem jr_iadd {x y : Int32} (d : decode cc pc = .ok (.iadd, 1)) (hn : pc + 1 = n) (kk : jG l R cells slots cc nL own Ts ex hd Z n L (.int (x + y) :: st) w) : jG l R cells slots cc nL own Ts ex hd Z pc L (.int y :: .int x :: st) w := by
  subst hn
  intro p e s m args below meth c H locs ls hx hb hm ho ht hex hl hh
  exact lv_iadd hx hb d (kk p e s m args below meth c H locs ls hx hb hm ho ht hex hl hh)
theorem jr_isub {x y : Int32} (d : decode cc pc = .ok (.isub, 1)) (hn : pc + 1 = n) (kk : jG l R cells slots cc nL own Ts ex hd Z n L (.int (x - y) :: st) w) : jG l R cells slots cc nL own Ts ex hd Z pc L (.int y :: .int x :: st) w := by
  subst hn
  intro p e s m args below meth c H locs ls hx hb hm ho ht hex hl hh
  exact lv_isub hx hb d (kk p e s m args below meth c H locs ls hx hb hm ho ht hex hl hh)
theorem jr_imul {x y : Int32} (d : decode cc pc = .ok (.imul, 1)) (hn : pc + 1 = n) (kk : jG l R cells slots cc nL own Ts ex hd Z n L (.int (x * y) :: st) w) : jG l R cells slots cc nL own Ts ex hd Z pc L (.int y :: .int x :: st) w := by
  subst hn
  intro p e s m args below meth c H locs ls hx hb hm ho ht hex hl hh
  exact lv_imul hx hb d (kk p e s m args below meth c H locs ls hx hb hm ho ht hex hl hh)
theorem jr_iand {x y : Int32} (d : decode cc pc = .ok (.iand, 1)) (hn : pc + 1 = n) (kk : jG l R cells slots cc nL own Ts ex hd Z n L (.int (x &&& y) :: st) w) : jG l R cells slots cc nL own Ts ex hd Z pc L (.int y :: .int x :: st) w := by
  subst hn
  intro p e s m args below meth c H locs ls hx hb hm ho ht hex hl hh
  exact lv_iand hx hb d (kk p e s m args below meth c H locs ls hx hb hm ho ht hex hl hh)
theorem jr_ior {x y : Int32} (d : decode cc pc = .ok (.ior, 1)) (hn : pc + 1 = n) (kk : jG l R cells slots cc nL own Ts ex hd Z n L (.int (x ||| y) :: st) w) : jG l R cells slots cc nL own Ts ex hd Z pc L (.int y :: .int x :: st) w := by
  subst hn
  intro p e s m args below meth c H locs ls hx hb hm ho ht hex hl hh
  exact lv_ior hx hb d (kk p e s m args below meth c H locs ls hx hb hm ho ht hex hl hh)
theorem jr_ixor {x y : Int32} (d : decode cc pc = .ok (.ixor, 1)) (hn : pc + 1 = n) (kk : jG l R cells slots cc nL own Ts ex hd Z n L (.int (x ^^^ y) :: st) w) : jG l R cells slots cc nL own Ts ex hd Z pc L (.int y :: .int x :: st) w := by
  subst hn
  intro p e s m args below meth c H locs ls hx hb hm ho ht hex hl hh
  exact lv_ixor hx hb d (kk p e s m args below meth c H locs ls hx hb hm ho ht hex hl hh)
theorem jr_ishl {x y : Int32} (d : decode cc pc = .ok (.ishl, 1)) (hn : pc + 1 = n) (kk : jG l R cells slots cc nL own Ts ex hd Z n L (.int (x <<< (y &&& 31)) :: st) w) : jG l R cells slots cc nL own Ts ex hd Z pc L (.int y :: .int x :: st) w := by
  subst hn
  intro p e s m args below meth c H locs ls hx hb hm ho ht hex hl hh
  exact lv_ishl hx hb d (kk p e s m args below meth c H locs ls hx hb hm ho ht hex hl hh)
theorem jr_ishr {x y : Int32} (d : decode cc pc = .ok (.ishr, 1)) (hn : pc + 1 = n) (kk : jG l R cells slots cc nL own Ts ex hd Z n L (.int (x >>> (y &&& 31)) :: st) w) : jG l R cells slots cc nL own Ts ex hd Z pc L (.int y :: .int x :: st) w := by
  subst hn
  intro p e s m args below meth c H locs ls hx hb hm ho ht hex hl hh
  exact lv_ishr hx hb d (kk p e s m args below meth c H locs ls hx hb hm ho ht hex hl hh)
theorem jr_iushr {x y : Int32} (d : decode cc pc = .ok (.iushr, 1)) (hn : pc + 1 = n) (kk : jG l R cells slots cc nL own Ts ex hd Z n L (.int ((x.toUInt32 >>> (y.toUInt32 &&& Int32.toUInt32 31)).toInt32) :: st) w) : jG l R cells slots cc nL own Ts ex hd Z pc L (.int y :: .int x :: st) w := by
  subst hn
  intro p e s m args below meth c H locs ls hx hb hm ho ht hex hl hh
  exact lv_iushr hx hb d rfl (kk p e s m args below meth c H locs ls hx hb hm ho ht hex hl hh)
theorem jr_idiv {x y : Int32} (d : decode cc pc = .ok (.idiv, 1)) (hz : ¬ y = 0) (hn : pc + 1 = n) (kk : jG l R cells slots cc nL own Ts ex hd Z n L (.int (x / y) :: st) w) : jG l R cells slots cc nL own Ts ex hd Z pc L (.int y :: .int x :: st) w := by
  subst hn
  intro p e s m args below meth c H locs ls hx hb hm ho ht hex hl hh
  exact lv_idiv hx hb d hz (kk p e s m args below meth c H locs ls hx hb hm ho ht hex hl hh)
theorem jr_irem {x y : Int32} (d : decode cc pc = .ok (.irem, 1)) (hz : ¬ y = 0) (hn : pc + 1 = n) (kk : jG l R cells slots cc nL own Ts ex hd Z n L (.int (x - x / y * y) :: st) w) : jG l R cells slots cc nL own Ts ex hd Z pc L (.int y :: .int x :: st) w := by
  subst hn
  intro p e s m args below meth c H locs ls hx hb hm ho ht hex hl hh
  exact lv_irem hx hb d hz (kk p e s m args below meth c H locs ls hx hb hm ho ht hex hl hh)
theorem jr_ladd {x y : Int64} (d : decode cc pc = .ok (.ladd, 1)) (hn : pc + 1 = n) (kk : jG l R cells slots cc nL own Ts ex hd Z n L (.long (x + y) :: st) w) : jG l R cells slots cc nL own Ts ex hd Z pc L (.long y :: .long x :: st) w := by
  subst hn
  intro p e s m args below meth c H locs ls hx hb hm ho ht hex hl hh
  exact lv_ladd hx hb d (kk p e s m args below meth c H locs ls hx hb hm ho ht hex hl hh)
theorem jr_lsub {x y : Int64} (d : decode cc pc = .ok (.lsub, 1)) (hn : pc + 1 = n) (kk : jG l R cells slots cc nL own Ts ex hd Z n L (.long (x - y) :: st) w) : jG l R cells slots cc nL own Ts ex hd Z pc L (.long y :: .long x :: st) w := by
  subst hn
  intro p e s m args below meth c H locs ls hx hb hm ho ht hex hl hh
  exact lv_lsub hx hb d (kk p e s m args below meth c H locs ls hx hb hm ho ht hex hl hh)
theorem jr_lmul {x y : Int64} (d : decode cc pc = .ok (.lmul, 1)) (hn : pc + 1 = n) (kk : jG l R cells slots cc nL own Ts ex hd Z n L (.long (x * y) :: st) w) : jG l R cells slots cc nL own Ts ex hd Z pc L (.long y :: .long x :: st) w := by
  subst hn
  intro p e s m args below meth c H locs ls hx hb hm ho ht hex hl hh
  exact lv_lmul hx hb d (kk p e s m args below meth c H locs ls hx hb hm ho ht hex hl hh)
theorem jr_ldiv {x y : Int64} (d : decode cc pc = .ok (.ldiv, 1)) (hz : ¬ y = 0) (hn : pc + 1 = n) (kk : jG l R cells slots cc nL own Ts ex hd Z n L (.long (x / y) :: st) w) : jG l R cells slots cc nL own Ts ex hd Z pc L (.long y :: .long x :: st) w := by
  subst hn
  intro p e s m args below meth c H locs ls hx hb hm ho ht hex hl hh
  exact lv_ldiv hx hb d hz (kk p e s m args below meth c H locs ls hx hb hm ho ht hex hl hh)
theorem jr_lrem {x y : Int64} (d : decode cc pc = .ok (.lrem, 1)) (hz : ¬ y = 0) (hn : pc + 1 = n) (kk : jG l R cells slots cc nL own Ts ex hd Z n L (.long (x - x / y * y) :: st) w) : jG l R cells slots cc nL own Ts ex hd Z pc L (.long y :: .long x :: st) w := by
  subst hn
  intro p e s m args below meth c H locs ls hx hb hm ho ht hex hl hh
  exact lv_lrem hx hb d hz (kk p e s m args below meth c H locs ls hx hb hm ho ht hex hl hh)
theorem jr_ineg {x : Int32} (d : decode cc pc = .ok (.ineg, 1)) (hn : pc + 1 = n) (kk : jG l R cells slots cc nL own Ts ex hd Z n L (.int (-x) :: st) w) : jG l R cells slots cc nL own Ts ex hd Z pc L (.int x :: st) w := by
  subst hn
  intro p e s m args below meth c H locs ls hx hb hm ho ht hex hl hh
  exact lv_ineg hx hb d (kk p e s m args below meth c H locs ls hx hb hm ho ht hex hl hh)
theorem jr_i2l {x : Int32} (d : decode cc pc = .ok (.i2l, 1)) (hn : pc + 1 = n) (kk : jG l R cells slots cc nL own Ts ex hd Z n L (.long x.toInt64 :: st) w) : jG l R cells slots cc nL own Ts ex hd Z pc L (.int x :: st) w := by
  subst hn
  intro p e s m args below meth c H locs ls hx hb hm ho ht hex hl hh
  exact lv_i2l hx hb d rfl (kk p e s m args below meth c H locs ls hx hb hm ho ht hex hl hh)
theorem jr_i2b {x : Int32} (d : decode cc pc = .ok (.i2b, 1)) (hn : pc + 1 = n) (kk : jG l R cells slots cc nL own Ts ex hd Z n L (.int x.toInt8.toInt32 :: st) w) : jG l R cells slots cc nL own Ts ex hd Z pc L (.int x :: st) w := by
  subst hn
  intro p e s m args below meth c H locs ls hx hb hm ho ht hex hl hh
  exact lv_i2b hx hb d rfl (kk p e s m args below meth c H locs ls hx hb hm ho ht hex hl hh)
theorem jr_i2s {x : Int32} (d : decode cc pc = .ok (.i2s, 1)) (hn : pc + 1 = n) (kk : jG l R cells slots cc nL own Ts ex hd Z n L (.int x.toInt16.toInt32 :: st) w) : jG l R cells slots cc nL own Ts ex hd Z pc L (.int x :: st) w := by
  subst hn
  intro p e s m args below meth c H locs ls hx hb hm ho ht hex hl hh
  exact lv_i2s hx hb d rfl (kk p e s m args below meth c H locs ls hx hb hm ho ht hex hl hh)
theorem jr_lcmp {x y : Int64} (d : decode cc pc = .ok (.lcmp, 1)) (hn : pc + 1 = n) (kk : jG l R cells slots cc nL own Ts ex hd Z n L (.int (lg_cmp x y) :: st) w) : jG l R cells slots cc nL own Ts ex hd Z pc L (.long y :: .long x :: st) w := by
  subst hn
  intro p e s m args below meth c H locs ls hx hb hm ho ht hex hl hh
  exact W.lcmp hx hb d (kk p e s m args below meth c H locs ls hx hb hm ho ht hex hl hh)
theorem jr_dup {v : Value} (d : decode cc pc = .ok (.dup, 1)) (hc : v.category = 1) (hn : pc + 1 = n) (kk : jG l R cells slots cc nL own Ts ex hd Z n L (v :: v :: st) w) : jG l R cells slots cc nL own Ts ex hd Z pc L (v :: st) w := by
  subst hn
  intro p e s m args below meth c H locs ls hx hb hm ho ht hex hl hh
  exact lv_dup hx hb d hc (kk p e s m args below meth c H locs ls hx hb hm ho ht hex hl hh)
theorem jr_dup2 {u v : Value} (d : decode cc pc = .ok (.dup2, 1)) (hc : u.category = 1) (hc2 : v.category = 1) (hn : pc + 1 = n) (kk : jG l R cells slots cc nL own Ts ex hd Z n L (u :: v :: u :: v :: st) w) : jG l R cells slots cc nL own Ts ex hd Z pc L (u :: v :: st) w := by
  subst hn
  intro p e s m args below meth c H locs ls hx hb hm ho ht hex hl hh
  exact lv_dup2_11 hx hb d hc hc2 (kk p e s m args below meth c H locs ls hx hb hm ho ht hex hl hh)
theorem jr_pop {v : Value} (d : decode cc pc = .ok (.pop, 1)) (hc : v.category = 1) (hn : pc + 1 = n) (kk : jG l R cells slots cc nL own Ts ex hd Z n L st w) : jG l R cells slots cc nL own Ts ex hd Z pc L (v :: st) w := by
  subst hn
  intro p e s m args below meth c H locs ls hx hb hm ho ht hex hl hh
  exact lv_pop hx hb d hc (kk p e s m args below meth c H locs ls hx hb hm ho ht hex hl hh)
theorem jr_if_eq {x : Int32} {off : Int} (tgt : Nat) (d : decode cc pc = .ok (.ifCond .eq off, 3)) (ht : (pc : Int) + off = (tgt : Int)) (hn : pc + 3 = n) (kt : x = 0 → jG l R cells slots cc nL own Ts ex hd Z tgt L st w) (kf : ¬ x = 0 → jG l R cells slots cc nL own Ts ex hd Z n L st w) : jG l R cells slots cc nL own Ts ex hd Z pc L (.int x :: st) w := by
  subst hn
  intro p e s m args below meth c H locs ls hx hb hm ho hw hex hl hh
  exact lv_if_eq hx hb d ht (fun c1 => kt c1 p e s m args below meth c H locs ls hx hb hm ho hw hex hl hh) (fun c1 => kf c1 p e s m args below meth c H locs ls hx hb hm ho hw hex hl hh)
theorem jr_if_ne {x : Int32} {off : Int} (tgt : Nat) (d : decode cc pc = .ok (.ifCond .ne off, 3)) (ht : (pc : Int) + off = (tgt : Int)) (hn : pc + 3 = n) (kt : ¬ x = 0 → jG l R cells slots cc nL own Ts ex hd Z tgt L st w) (kf : x = 0 → jG l R cells slots cc nL own Ts ex hd Z n L st w) : jG l R cells slots cc nL own Ts ex hd Z pc L (.int x :: st) w := by
  subst hn
  intro p e s m args below meth c H locs ls hx hb hm ho hw hex hl hh
  exact lv_if_ne hx hb d ht (fun c1 => kt c1 p e s m args below meth c H locs ls hx hb hm ho hw hex hl hh) (fun c1 => kf c1 p e s m args below meth c H locs ls hx hb hm ho hw hex hl hh)
theorem jr_if_lt {x : Int32} {off : Int} (tgt : Nat) (d : decode cc pc = .ok (.ifCond .lt off, 3)) (ht : (pc : Int) + off = (tgt : Int)) (hn : pc + 3 = n) (kt : x < 0 → jG l R cells slots cc nL own Ts ex hd Z tgt L st w) (kf : ¬ x < 0 → jG l R cells slots cc nL own Ts ex hd Z n L st w) : jG l R cells slots cc nL own Ts ex hd Z pc L (.int x :: st) w := by
  subst hn
  intro p e s m args below meth c H locs ls hx hb hm ho hw hex hl hh
  exact lv_if_lt hx hb d ht (fun c1 => kt c1 p e s m args below meth c H locs ls hx hb hm ho hw hex hl hh) (fun c1 => kf c1 p e s m args below meth c H locs ls hx hb hm ho hw hex hl hh)
theorem jr_if_ge {x : Int32} {off : Int} (tgt : Nat) (d : decode cc pc = .ok (.ifCond .ge off, 3)) (ht : (pc : Int) + off = (tgt : Int)) (hn : pc + 3 = n) (kt : 0 ≤ x → jG l R cells slots cc nL own Ts ex hd Z tgt L st w) (kf : ¬ 0 ≤ x → jG l R cells slots cc nL own Ts ex hd Z n L st w) : jG l R cells slots cc nL own Ts ex hd Z pc L (.int x :: st) w := by
  subst hn
  intro p e s m args below meth c H locs ls hx hb hm ho hw hex hl hh
  exact lv_if_ge hx hb d ht (fun c1 => kt c1 p e s m args below meth c H locs ls hx hb hm ho hw hex hl hh) (fun c1 => kf c1 p e s m args below meth c H locs ls hx hb hm ho hw hex hl hh)
theorem jr_if_gt {x : Int32} {off : Int} (tgt : Nat) (d : decode cc pc = .ok (.ifCond .gt off, 3)) (ht : (pc : Int) + off = (tgt : Int)) (hn : pc + 3 = n) (kt : 0 < x → jG l R cells slots cc nL own Ts ex hd Z tgt L st w) (kf : ¬ 0 < x → jG l R cells slots cc nL own Ts ex hd Z n L st w) : jG l R cells slots cc nL own Ts ex hd Z pc L (.int x :: st) w := by
  subst hn
  intro p e s m args below meth c H locs ls hx hb hm ho hw hex hl hh
  exact lv_if_gt hx hb d ht (fun c1 => kt c1 p e s m args below meth c H locs ls hx hb hm ho hw hex hl hh) (fun c1 => kf c1 p e s m args below meth c H locs ls hx hb hm ho hw hex hl hh)
theorem jr_if_le {x : Int32} {off : Int} (tgt : Nat) (d : decode cc pc = .ok (.ifCond .le off, 3)) (ht : (pc : Int) + off = (tgt : Int)) (hn : pc + 3 = n) (kt : x ≤ 0 → jG l R cells slots cc nL own Ts ex hd Z tgt L st w) (kf : ¬ x ≤ 0 → jG l R cells slots cc nL own Ts ex hd Z n L st w) : jG l R cells slots cc nL own Ts ex hd Z pc L (.int x :: st) w := by
  subst hn
  intro p e s m args below meth c H locs ls hx hb hm ho hw hex hl hh
  exact lv_if_le hx hb d ht (fun c1 => kt c1 p e s m args below meth c H locs ls hx hb hm ho hw hex hl hh) (fun c1 => kf c1 p e s m args below meth c H locs ls hx hb hm ho hw hex hl hh)
theorem jr_icmp_eq {x y : Int32} {off : Int} (tgt : Nat) (d : decode cc pc = .ok (.if_icmp .eq off, 3)) (ht : (pc : Int) + off = (tgt : Int)) (hn : pc + 3 = n) (kt : x = y → jG l R cells slots cc nL own Ts ex hd Z tgt L st w) (kf : ¬ x = y → jG l R cells slots cc nL own Ts ex hd Z n L st w) : jG l R cells slots cc nL own Ts ex hd Z pc L (.int y :: .int x :: st) w := by
  subst hn
  intro p e s m args below meth c H locs ls hx hb hm ho hw hex hl hh
  exact lv_icmp_eq hx hb d ht (fun c1 => kt c1 p e s m args below meth c H locs ls hx hb hm ho hw hex hl hh) (fun c1 => kf c1 p e s m args below meth c H locs ls hx hb hm ho hw hex hl hh)
theorem jr_icmp_ne {x y : Int32} {off : Int} (tgt : Nat) (d : decode cc pc = .ok (.if_icmp .ne off, 3)) (ht : (pc : Int) + off = (tgt : Int)) (hn : pc + 3 = n) (kt : ¬ x = y → jG l R cells slots cc nL own Ts ex hd Z tgt L st w) (kf : x = y → jG l R cells slots cc nL own Ts ex hd Z n L st w) : jG l R cells slots cc nL own Ts ex hd Z pc L (.int y :: .int x :: st) w := by
  subst hn
  intro p e s m args below meth c H locs ls hx hb hm ho hw hex hl hh
  exact lv_icmp_ne hx hb d ht (fun c1 => kt c1 p e s m args below meth c H locs ls hx hb hm ho hw hex hl hh) (fun c1 => kf c1 p e s m args below meth c H locs ls hx hb hm ho hw hex hl hh)
theorem jr_icmp_lt {x y : Int32} {off : Int} (tgt : Nat) (d : decode cc pc = .ok (.if_icmp .lt off, 3)) (ht : (pc : Int) + off = (tgt : Int)) (hn : pc + 3 = n) (kt : x < y → jG l R cells slots cc nL own Ts ex hd Z tgt L st w) (kf : ¬ x < y → jG l R cells slots cc nL own Ts ex hd Z n L st w) : jG l R cells slots cc nL own Ts ex hd Z pc L (.int y :: .int x :: st) w := by
  subst hn
  intro p e s m args below meth c H locs ls hx hb hm ho hw hex hl hh
  exact lv_icmp_lt hx hb d ht (fun c1 => kt c1 p e s m args below meth c H locs ls hx hb hm ho hw hex hl hh) (fun c1 => kf c1 p e s m args below meth c H locs ls hx hb hm ho hw hex hl hh)
theorem jr_icmp_ge {x y : Int32} {off : Int} (tgt : Nat) (d : decode cc pc = .ok (.if_icmp .ge off, 3)) (ht : (pc : Int) + off = (tgt : Int)) (hn : pc + 3 = n) (kt : y ≤ x → jG l R cells slots cc nL own Ts ex hd Z tgt L st w) (kf : ¬ y ≤ x → jG l R cells slots cc nL own Ts ex hd Z n L st w) : jG l R cells slots cc nL own Ts ex hd Z pc L (.int y :: .int x :: st) w := by
  subst hn
  intro p e s m args below meth c H locs ls hx hb hm ho hw hex hl hh
  exact lv_icmp_ge hx hb d ht (fun c1 => kt c1 p e s m args below meth c H locs ls hx hb hm ho hw hex hl hh) (fun c1 => kf c1 p e s m args below meth c H locs ls hx hb hm ho hw hex hl hh)
theorem jr_icmp_gt {x y : Int32} {off : Int} (tgt : Nat) (d : decode cc pc = .ok (.if_icmp .gt off, 3)) (ht : (pc : Int) + off = (tgt : Int)) (hn : pc + 3 = n) (kt : y < x → jG l R cells slots cc nL own Ts ex hd Z tgt L st w) (kf : ¬ y < x → jG l R cells slots cc nL own Ts ex hd Z n L st w) : jG l R cells slots cc nL own Ts ex hd Z pc L (.int y :: .int x :: st) w := by
  subst hn
  intro p e s m args below meth c H locs ls hx hb hm ho hw hex hl hh
  exact lv_icmp_gt hx hb d ht (fun c1 => kt c1 p e s m args below meth c H locs ls hx hb hm ho hw hex hl hh) (fun c1 => kf c1 p e s m args below meth c H locs ls hx hb hm ho hw hex hl hh)
theorem jr_icmp_le {x y : Int32} {off : Int} (tgt : Nat) (d : decode cc pc = .ok (.if_icmp .le off, 3)) (ht : (pc : Int) + off = (tgt : Int)) (hn : pc + 3 = n) (kt : x ≤ y → jG l R cells slots cc nL own Ts ex hd Z tgt L st w) (kf : ¬ x ≤ y → jG l R cells slots cc nL own Ts ex hd Z n L st w) : jG l R cells slots cc nL own Ts ex hd Z pc L (.int y :: .int x :: st) w := by
  subst hn
  intro p e s m args below meth c H locs ls hx hb hm ho hw hex hl hh
  exact lv_icmp_le hx hb d ht (fun c1 => kt c1 p e s m args below meth c H locs ls hx hb hm ho hw hex hl hh) (fun c1 => kf c1 p e s m args below meth c H locs ls hx hb hm ho hw hex hl hh)
theorem jr_goto {off : Int} (tgt : Nat) (d : decode cc pc = .ok (.goto off, 3)) (ht : (pc : Int) + off = (tgt : Int)) (kk : jG l R cells slots cc nL own Ts ex hd Z tgt L st w) : jG l R cells slots cc nL own Ts ex hd Z pc L st w := by
  intro p e s m args below meth c H locs ls hx hb hm ho hw hex hl hh
  exact lv_goto hx hb d ht (kk p e s m args below meth c H locs ls hx hb hm ho hw hex hl hh)
theorem jr_sub (ks : List Nat) (hL : lv_pick L ks = L') (kk : jG l R cells slots cc nL own Ts ex hd Z pc L' st w) : jG l R cells slots cc nL own Ts ex hd Z pc L st w := by
  intro p e s m args below meth c H locs ls hx hb hm ho hw hex hl hh
  exact kk p e s m args below meth c H locs ls hx hb hm ho hw hex (lv_sub hl ks hL) hh
theorem jr_st {st' : List Value} (h : st' = st) (kk : jG l R cells slots cc nL own Ts ex hd Z pc L st' w) : jG l R cells slots cc nL own Ts ex hd Z pc L st w := h ▸ kk
theorem jr_topi {x : Int32} (kk : ∀ z : Int32, z = x → jG l R cells slots cc nL own Ts ex hd Z pc L (.int z :: st) w) : jG l R cells slots cc nL own Ts ex hd Z pc L (.int x :: st) w := kk x rfl
theorem jr_topl {x : Int64} (kk : ∀ z : Int64, z = x → jG l R cells slots cc nL own Ts ex hd Z pc L (.long z :: st) w) : jG l R cells slots cc nL own Ts ex hd Z pc L (.long x :: st) w := kk x rfl
theorem jr_tabIn {dflt hi : Int} {offs : Array Int} {len : Nat} {x v : Int32} {off : Int} (tgt : Nat) (d : decode cc pc = .ok (.tableswitch dflt 0 hi offs, len)) (hv : x = v) (h : ¬ v.toInt < 0 ∧ ¬ hi < v.toInt ∧ offs[(v.toInt - 0).toNat]? = some off) (ht : (pc : Int) + off = (tgt : Int)) (kk : jG l R cells slots cc nL own Ts ex hd Z tgt L st w) : jG l R cells slots cc nL own Ts ex hd Z pc L (.int x :: st) w := by
  subst hv
  intro p e s m args below meth c H locs ls hx hb hm ho hw hex hl hh
  exact lv_tableIn hx hb d h.1 h.2.1 h.2.2 ht (kk p e s m args below meth c H locs ls hx hb hm ho hw hex hl hh)
theorem jr_tabOut {dflt : Int} (hi : Nat) {offs : Array Int} {len : Nat} {x : Int32} (tgt : Nat) (d : decode cc pc = .ok (.tableswitch dflt 0 (hi : Int) offs, len)) (hb31 : hi < 1000) (h : ∀ j : Nat, j ≤ hi → ¬ x = nI j) (ht : (pc : Int) + dflt = (tgt : Int)) (kk : jG l R cells slots cc nL own Ts ex hd Z tgt L st w) : jG l R cells slots cc nL own Ts ex hd Z pc L (.int x :: st) w := by
  intro p e s m args below meth c H locs ls hx hb hm ho hw hex hl hh
  refine lv_tableOut hx hb d ?_ ht (kk p e s m args below meth c H locs ls hx hb hm ho hw hex hl hh)
  by_cases h1 : x < 0
  · left
    simpa using Int32.lt_iff_toInt_lt.mp h1
  · right
    obtain ⟨j, hj, e⟩ := nI_of h1
    rcases Nat.lt_or_ge hi j with q | q
    · rw [e, nI_toInt hj]; omega
    · exact absurd e (h j q)
theorem jr_look {dflt : Int} {ps : Array (Int × Int)} {len : Nat} {x : Int32} {off : Int} (tgt : Nat) (d : decode cc pc = .ok (.lookupswitch dflt ps, len)) (hp : (ps.toList.zip (ps.toList.drop 1)).all (fun (a, next) => a.1 < next.1) = true) (hof : Op.lookupswitch.offset ps.toList dflt x.toInt = off) (ht : (pc : Int) + off = (tgt : Int)) (kk : jG l R cells slots cc nL own Ts ex hd Z tgt L st w) : jG l R cells slots cc nL own Ts ex hd Z pc L (.int x :: st) w := by
  intro p e s m args below meth c H locs ls hx hb hm ho hw hex hl hh
  exact lv_lookup hx hb d hp hof ht (kk p e s m args below meth c H locs ls hx hb hm ho hw hex hl hh)
end JR
