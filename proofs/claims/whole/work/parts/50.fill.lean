/-! ===== Arrays.fill over a list of cells ===== -/
def zX (D : va_G) (ci : ClassId) (sz : Nat) (s : State) (meth : Method) : Prop := meth.sig.returnType = none ∧ meth.locks = false ∧ va_K D vwCl [(ci, .int)] s ∧ s.heap.size = sz
abbrev JZ (l : Launch) (D : va_G) (ci : ClassId) (sz : Nat) (A : Nat → Prop) (P : va_W → Prop) (pc : Nat) (L : List (Nat × Value)) (st : List Value) (w : va_W) : Prop :=
  jG l { frames := 0, cells := 0, slots := 0, locals := 0 } 0 0 cJ7_fill_53178 4 yJ7_fill_53178.cls (Cond.code yJ7_fill_53178 cJ7_fill_53178 4 none :: lw_g) (zX D ci sz) (iH D A) (fun below args s => MQ below (va_Qv P (iB D ci A) A) args s 0 0 A) pc L st w
section JZ
variable {l : Launch} {D : va_G} {ci : ClassId} {sz : Nat} {A : Nat → Prop} {P : va_W → Prop} {pc n : Nat} {L : List (Nat × Value)} {st : List Value} {a N : Nat} {f : Nat → Int32}
theorem jz_len (d : decode cJ7_fill_53178 pc = .ok (.arraylength, 1)) (hn : pc + 1 = n) (kk : JZ l D ci sz A P n L (.int (nI N) :: st) [(a, .inl (ci, N, .inl f))]) : JZ l D ci sz A P pc L (.ref a :: st) [(a, .inl (ci, N, .inl f))] := by
  subst hn
  intro p e s m args below meth c H locs ls hx hb hm ho ht hex hl hh
  exact va_alen hx hb hex.2.2.1 hh.1 0 0 rfl (ty := .int) rfl (v := nI N) rfl d (kk p e s m args below meth c H locs ls hx hb hm ho ht hex hl hh)
theorem jz_ast {i x : Int32} {q : Nat} (hq : i = nI q) (hN : q < N) (hN' : N < 2 ^ 31) (d : decode cJ7_fill_53178 pc = .ok (.iastore, 1)) (hn : pc + 1 = n) (kk : JZ l D ci sz A P n L st [(a, .inl (ci, N, .inl (upd f q x)))]) : JZ l D ci sz A P pc L (.int x :: .int i :: .ref a :: st) [(a, .inl (ci, N, .inl f))] := by
  subst hn
  subst hq
  intro p e s m args below meth c H locs ls hx hb hm ho ht hex hl hh
  refine va_iast hx hb hex.2.2.1 hh.1 hh.2.1 hh.2.2 0 0 rfl rfl (jin_e (jin_n hN hN')) d (fun H1 locs1 hP1 hD1 hS1 => ?_)
  rw [nI_cl (by omega)] at hP1 hD1
  exact kk p e s m args below meth c H1 locs1 ls hx hb hm ho ht hex hl ⟨hP1, hD1, hS1⟩
theorem jz_ret {w : va_W} (hP : P w) (d : decode cJ7_fill_53178 pc = .ok (.return_, 1)) : JZ l D ci sz A P pc L [] w := by
  intro p e s m args below meth c H locs ls hx hb hm ho ht hex hl hh
  exact W.vret hx hb hex.1 (fun t ht hW => ⟨⟨w, rfl, hP, by rw [ht]; exact hh.1, va_K.moved hW.alike hex.2.2.1, hh.2.1⟩, hh.2.2.F ht⟩) hh.2.2.2.2 d hex.2.1
theorem jz_loop {v : Int32} (hN' : N < 1000) : ∀ q j f, j + q = N → (∀ x, x < j → f x = v) → JZ l D ci sz A (fun u => ∃ f', u = [(a, .inl (ci, N, .inl f'))] ∧ ∀ j, j < N → f' j = v) 5 [(2, .int (nI j)), (3, .int (nI N)), (0, .ref a), (1, .int v)] [] [(a, .inl (ci, N, .inl f))] := by
  intro q
  induction q with
  | zero =>
    intro j f hj h
    refine jr_iload_n 0 dJ7_fill_53178_5 rfl rfl rfl ?_
    refine jr_iload_n 1 dJ7_fill_53178_6 rfl rfl rfl ?_
    refine jr_icmp_ge 20 dJ7_fill_53178_7 rfl rfl (fun _ => ?_) (fun z => absurd (nI_le (by omega) (by omega)) z)
    exact jz_ret ⟨f, rfl, fun x hx => h x (by omega)⟩ dJ7_fill_53178_20
  | succ q ih =>
    intro j f hj h
    refine jr_iload_n 0 dJ7_fill_53178_5 rfl rfl rfl ?_
    refine jr_iload_n 1 dJ7_fill_53178_6 rfl rfl rfl ?_
    refine jr_icmp_ge 20 dJ7_fill_53178_7 rfl rfl (fun z => absurd z (nI_ge (by omega) (by omega))) (fun _ => ?_)
    refine jr_aload_n 2 dJ7_fill_53178_10 rfl rfl rfl ?_
    refine jr_iload_n 0 dJ7_fill_53178_11 rfl rfl rfl ?_
    refine jr_iload_n 3 dJ7_fill_53178_12 rfl rfl rfl ?_
    refine jz_ast (q := j) rfl (by omega) (by omega) dJ7_fill_53178_13 rfl ?_
    refine jr_iinc (v := nI (j + 1)) 0 dJ7_fill_53178_14 rfl (nI_add j 1) (by decide) rfl rfl ?_
    refine jr_goto 5 dJ7_fill_53178_17 rfl ?_
    exact ih (j + 1) (upd f j v) (by omega) (fun x hx => by
      by_cases e : x = j
      · subst e; simp [upd]
      · simp only [upd, e, if_false]; exact h x (by omega))
end JZ
/-- the contract of fill -/
theorem zC (l : Launch) (D : va_G) (ci : ClassId) (sz a N : Nat) (hN : N < 1000) (f : Nat → Int32) (v : Int32) : Met l yJ7_fill_53178 (Cond.code yJ7_fill_53178 cJ7_fill_53178 4 none :: lw_g) { frames := 0, cells := 0, slots := 0, locals := 0 } (va_Pc [.ref a, .int v] (fun U => U.heap.size = sz ∧ va_P D vwCl [(a, .inl (ci, N, .inl f))] U.heap ∧ va_K D vwCl [(ci, .int)] U ∧ va_D (fun _ => True) [(a, .inl (ci, N, .inl f))])) (va_Qv (fun u => ∃ f', u = [(a, .inl (ci, N, .inl f'))] ∧ ∀ j, j < N → f' j = v) (iB D ci (va_A [(a, .inl (ci, N, .inl f))] sz)) (va_A [(a, .inl (ci, N, .inl f))] sz)) 0 0 (va_A [(a, .inl (ci, N, .inl f))] sz) := by
  refine Met.ofW (cc := cJ7_fill_53178) (maxL := 4) (ret := none) (by decide) rfl ?_
  intro p e s m args below meth c s₁ B hml hv
  obtain ⟨rfl, hsz, hP, hK, hD⟩ := hv
  have hl := lv_entry [.ref a, .int v] (n := 4) (Nat.le_of_ble_eq_true rfl)
  rw [lg_entry_eq]
  have key : JZ l D ci sz (va_A [(a, .inl (ci, N, .inl f))] sz) (fun u => ∃ f', u = [(a, .inl (ci, N, .inl f'))] ∧ ∀ j, j < N → f' j = v) 0 [(0, .ref a), (1, .int v)] [] [(a, .inl (ci, N, .inl f))] := by
    refine jr_iconst (v := 0) dJ7_fill_53178_0 rfl rfl ?_
    refine jr_istore_n dJ7_fill_53178_1 rfl (by decide) rfl rfl ?_
    refine jr_aload_n 1 dJ7_fill_53178_2 rfl rfl rfl ?_
    refine jz_len dJ7_fill_53178_3 rfl ?_
    refine jr_istore_n (L' := [(3, .int (nI N)), (2, .int 0), (0, .ref a), (1, .int v)]) dJ7_fill_53178_4 rfl (by decide) rfl rfl ?_
    intro p e s m args below meth c H locs ls hx hb hm ho ht hex hl hh
    exact jz_loop hN N 0 f (by omega) (fun x hx => by omega) p e s m args below meth c H locs ls hx hb hm ho ht hex (lv_sub hl [1, 0, 2, 3] rfl) hh
  exact key p e s m _ below meth c s.heap [] _ B.exec B.bytes hml (findClass_of_methodNamed B.named) (atoms_spec (ws := Cond.code yJ7_fill_53178 cJ7_fill_53178 4 none :: lw_g) B.pre) ⟨B.returns, B.notSynchronized, hK, hsz⟩ hl ⟨hP, hD.self, va_S.rf⟩
