section JI2
variable {l : Launch} {D : va_G} {ci : ClassId} {sz : Nat} {A : Nat → Prop} {P : va_W → Prop} {y : MethodName} {cc : ByteArray} {nL : Nat} {R : Room} {mc ms cells slots pc n : Nat} {L : List (Nat × Value)} {st : List Value} {w wr : va_W}
theorem ji_fill (hA : ∀ q, sz ≤ q → A q) {a N idx : Nat} {f : Nat → Int32} {v : Int32} (i : Nat) (isR : List Nat) (hN : N < 1000) (hC : [i].map (fun i => w[i]?) = [((a, .inl (ci, N, .inl f)) : Nat × va_E)].map some) (hR : isR.map (fun i => w[i]?) = wr.map some) (hnd : va_nd isR = true) (hdis : ∀ j ∈ isR, j ∉ [i]) (hw : jwB y.cls idx yJ7_fill_53178 cJ7_fill_53178 4 none 2) (hrm : jrm R { frames := 0, cells := 0, slots := 0, locals := 0 } 4) (hce : cells ≤ R.cells ∧ slots ≤ R.slots) (hcat : (st.map fun v => v.category).sum ≤ 8) (d : decode cc pc = .ok (.invokestatic idx, 3)) (hn : pc + 3 = n) (kk : ∀ f', (∀ j, j < N → f' j = v) → JI l D ci sz A P y cc nL R mc ms cells slots n L st (wr ++ [(a, .inl (ci, N, .inl f'))])) : JI l D ci sz A P y cc nL R mc ms cells slots pc L (.int v :: .ref a :: st) w := by
  subst hn
  intro p e s m args below meth c H locs ls hx hb hm ho ht hex hl hh
  have hA' : ∀ q, s.heap.size ≤ q → A q := fun q h => hA q (by rw [← hex.2.2.2.2.1]; exact h)
  have hx0 : w[i]? = some (a, .inl (ci, N, .inl f)) := by simpa using hC
  have hPc := hh.1.sub (ws' := [(a, .inl (ci, N, .inl f))]) [i] (by simp [hx0])
  have hDc := hh.2.1.sub (ws' := [(a, .inl (ci, N, .inl f))]) [i] rfl hC
  have hFc := va_free (wc := [(a, .inl (ci, N, .inl f))]) hh.2.1 hh.2.2 hA' [i] hC
  refine va_callv (va_runS (As := [.ref a, .int v]) (rest := st) (Ts := Cond.code y cc nL none :: lw_g) (own := y.cls) ⟨hx, hb, hm, ho, ht⟩ (zC l D ci H.size a N hN f v) ⟨jcallB (R := R) (s := s) (args := args) ht hw hrm, ht _ (List.mem_cons_of_mem _ iv_J7_fill_53178)⟩ ⟨fun a U g mk q => by obtain ⟨q0, q1, qP, qK, qD⟩ := q; exact ⟨q0, q1, qP, va_K.moved (u := U) (U := U.calling g mk a) (Vm.Alike.refl U.vm) qK, qD⟩, fun U hU hW => ⟨rfl, by rw [hU], by rw [hU]; exact hPc, va_K.moved hW.alike hex.2.2.2.1, hDc.weaken (fun _ _ _ _ => trivial)⟩⟩ rfl rfl hl.1 rfl (lv_room hcat) d hce) hh.2.2 (fun q _ h => hFc q h) hFc (fun u t H1 locs1 htt hvm hp hB hz1 hk1 hS1 => ?_)
  obtain ⟨f', rfl, hf'⟩ := hp
  obtain ⟨hP1, hK1, hD1⟩ := hB
  rw [htt] at hP1
  obtain ⟨hP2, hD2⟩ := va_join (wr := wr) (w1 := [(a, .inl (ci, N, .inl f'))]) hh.1 hh.2.1 [i] isR hC hR hnd hdis hk1 hFc hP1 hD1
  exact kk f' hf' p e s m args below meth c H1 locs1 ls hx hb hm ho ht hex hl ⟨hP2, hD2, hS1⟩
theorem ji_new (hA : ∀ q, sz ≤ q → A q) {cj : Nat} {C : String} {T : u_T} {N : Nat} {ty : Nat → FieldType} (hcl : jcl cj C T N ty) {idx : Nat} {fs : List Value} (hlink : Cond.classLink y.cls idx C ∈ lw_g) (hinst : Cond.instantiable C N ∈ lw_g) (hini : Cond.initialized C ∈ lw_g) (hfs : ∀ j, j < N → defaultValue (ty j) = vp_V fs j) (hc : cells + 1 ≤ R.cells) (hs : slots + N ≤ R.slots) (d : decode cc pc = .ok (.new idx, 3)) (hn : pc + 3 = n) (kk : ∀ q, JI l D ci sz A P y cc nL R mc ms (cells + 1) (slots + N) n L (.ref q :: st) (w ++ [(q, .inr (cj, fs))])) : JI l D ci sz A P y cc nL R mc ms cells slots pc L st w := by
  subst hn
  intro p e s m args below meth c H locs ls hx hb hm ho ht hex hl hh
  obtain ⟨h1, h2, h3, h4, h5⟩ := hcl
  exact va_new hx hb ht (fun w h => List.mem_cons_of_mem _ (h3 w h)) ty h4 ho (ht _ (List.mem_cons_of_mem _ hlink)) (ht _ (List.mem_cons_of_mem _ hinst)) (ht _ (List.mem_cons_of_mem _ hini)) hex.2.2.2.1 hh.1 hh.2.1 hh.2.2 (fun q h => hA q (by rw [← hex.2.2.2.2.1]; exact h)) h1 hfs hc hs d (fun q H1 hP1 hD1 hS1 => kk q p e s m args below meth c H1 locs ls hx hb hm ho ht hex hl ⟨hP1, hD1, hS1⟩)
theorem ji_call (hA : ∀ q, sz ≤ q → A q) {a cj idx mc2 ms2 nL2 nn : Nat} {fs As stk : List Value} {P2 : va_W → Prop} {y2 : MethodName} {cc2 : ByteArray} {R2 : Room} (i : Nat) (isR : List Nat) (hM : ∀ sz2, iC l D ci sz2 [(a, .inr (cj, fs))] P2 y2 cc2 nL2 R2 mc2 ms2 (.ref a :: As)) (hC : [i].map (fun i => w[i]?) = [((a, .inr (cj, fs)) : Nat × va_E)].map some) (hR : isR.map (fun i => w[i]?) = wr.map some) (hnd : va_nd isR = true) (hdis : ∀ j ∈ isR, j ∉ [i]) (hw : jwB y.cls idx y2 cc2 nL2 none nn) (hi : Cond.instanceMethod y2 ∈ lw_g) (hy : y2.name = "<init>") (hr0 : R2.cells = mc2 ∧ R2.slots = ms2) (hrm : R2.frames + 1 ≤ R.frames ∧ 8 + (nL2 + 11) + R2.locals ≤ R.locals) (hce : cells + mc2 ≤ R.cells ∧ slots + ms2 ≤ R.slots) (hlen : As.length = nn) (hs : As.reverse ++ .ref a :: st = stk) (hcat : (st.map fun v => v.category).sum ≤ 8) (d : decode cc pc = .ok (.invokespecial idx, 3)) (hn : pc + 3 = n) (kk : ∀ u, P2 u → JI l D ci sz A P y cc nL R mc ms (cells + mc2) (slots + ms2) n L st (wr ++ u)) : JI l D ci sz A P y cc nL R mc ms cells slots pc L stk w := by
  subst hn
  intro p e s m args below meth c H locs ls hx hb hm ho ht hex hl hh
  have hA' : ∀ q, s.heap.size ≤ q → A q := fun q h => hA q (by rw [← hex.2.2.2.2.1]; exact h)
  have hx0 : w[i]? = some (a, .inr (cj, fs)) := by simpa using hC
  have hPc := hh.1.sub (ws' := [(a, .inr (cj, fs))]) [i] (by simp [hx0])
  have hDc := hh.2.1.sub (ws' := [(a, .inr (cj, fs))]) [i] rfl hC
  have hFc := va_free (wc := [(a, .inr (cj, fs))]) hh.2.1 hh.2.2 hA' [i] hC
  refine va_callv (va_runI (As := As) (b := a) (rest := st) (Ts := Cond.code y cc nL none :: lw_g) (own := y.cls) ⟨hx, hb, hm, ho, ht⟩ (hM H.size) ⟨callB_of nn ht (jgood hw.2.1) rfl hr0.1 hr0.2 (ht _ (List.mem_cons_of_mem _ hw.2.2.1)) (ht _ (List.mem_cons_of_mem _ hw.1)) hw.2.2.2 hrm, hy, ht _ (List.mem_cons_of_mem _ hi)⟩ ⟨fun a U g mk q => by obtain ⟨q0, q1, qP, qK, qD, qN⟩ := q; exact ⟨q0, q1, qP, va_K.moved (u := U) (U := U.calling g mk a) (Vm.Alike.refl U.vm) qK, qD, va_Nw.same rfl rfl qN.1, va_Nw.same rfl rfl qN.2⟩, fun U hU hW => ⟨rfl, by rw [hU], by rw [hU]; exact hPc, va_K.moved hW.alike hex.2.2.2.1, hDc.weaken (fun _ _ _ _ => trivial), va_Nw.warmM hW hex.2.2.2.2.2.1, va_Nw.warmM hW hex.2.2.2.2.2.2⟩⟩ rfl hlen hl.1 hs.symm (lv_room hcat) d hce) hh.2.2 (fun q _ h => hFc q h) hFc (fun u t H1 locs1 htt hvm hp hB hz1 hk1 hS1 => ?_)
  obtain ⟨hP1, hK1, hD1⟩ := hB
  rw [htt] at hP1
  obtain ⟨hP2, hD2⟩ := va_join (wr := wr) (w1 := u) hh.1 hh.2.1 [i] isR hC hR hnd hdis hk1 hFc hP1 hD1
  exact kk u hp p e s m args below meth c H1 locs1 ls hx hb hm ho ht hex hl ⟨hP2, hD2, hS1⟩
theorem ji_callN (hA : ∀ q, sz ≤ q → A q) {a cj idx mc2 ms2 nL2 nn : Nat} {fs As stk : List Value} {P2 : va_W → Prop} {y2 : MethodName} {cc2 : ByteArray} {R2 : Room} (i : Nat) (isR : List Nat) (hM : ∀ sz2, iC l D ci sz2 [(a, .inr (cj, fs))] P2 y2 cc2 nL2 R2 mc2 ms2 (.ref a :: As)) (hC : [i].map (fun i => w[i]?) = [((a, .inr (cj, fs)) : Nat × va_E)].map some) (hR : isR.map (fun i => w[i]?) = wr.map some) (hnd : va_nd isR = true) (hdis : ∀ j ∈ isR, j ∉ [i]) {host : String} (hNl : ∀ s, iN s → va_Nw (.methodLinkNest y.cls idx y2 host) s) (hcd : Cond.code y2 cc2 nL2 none ∈ lw_g) (hii : Cond.initialized y2.cls ∈ lw_g) (hwd : y2.cls ≠ "java/lang/invoke/MethodHandle" ∧ y2.cls ≠ "java/lang/invoke/VarHandle" ∧ (parseMethodDescriptor y2.desc).map (fun d => d.parameters.length) = some nn) (hi : Cond.instanceMethod y2 ∈ lw_g) (hy : y2.name = "<init>") (hr0 : R2.cells = mc2 ∧ R2.slots = ms2) (hrm : R2.frames + 1 ≤ R.frames ∧ 8 + (nL2 + 11) + R2.locals ≤ R.locals) (hce : cells + mc2 ≤ R.cells ∧ slots + ms2 ≤ R.slots) (hlen : As.length = nn) (hs : As.reverse ++ .ref a :: st = stk) (hcat : (st.map fun v => v.category).sum ≤ 8) (d : decode cc pc = .ok (.invokespecial idx, 3)) (hn : pc + 3 = n) (kk : ∀ u, P2 u → JI l D ci sz A P y cc nL R mc ms (cells + mc2) (slots + ms2) n L st (wr ++ u)) : JI l D ci sz A P y cc nL R mc ms cells slots pc L stk w := by
  subst hn
  intro p e s m args below meth c H locs ls hx hb hm ho ht hex hl hh
  have hA' : ∀ q, s.heap.size ≤ q → A q := fun q h => hA q (by rw [← hex.2.2.2.2.1]; exact h)
  have hx0 : w[i]? = some (a, .inr (cj, fs)) := by simpa using hC
  have hPc := hh.1.sub (ws' := [(a, .inr (cj, fs))]) [i] (by simp [hx0])
  have hDc := hh.2.1.sub (ws' := [(a, .inr (cj, fs))]) [i] rfl hC
  have hFc := va_free (wc := [(a, .inr (cj, fs))]) hh.2.1 hh.2.2 hA' [i] hC
  refine va_callv (va_runIN (host := host) (As := As) (b := a) (rest := st) (Ts := Cond.code y cc nL none :: lw_g) (own := y.cls) ⟨hx, hb, hm, ho, ht⟩ (hM H.size) ⟨va_cnB nn ht (jgood hcd) rfl hr0.1 hr0.2 (hNl s hex.2.2.2.2.2) (ht _ (List.mem_cons_of_mem _ hii)) hwd hrm, hy, ht _ (List.mem_cons_of_mem _ hi)⟩ ⟨fun a U g mk q => by obtain ⟨q0, q1, qP, qK, qD, qN⟩ := q; exact ⟨q0, q1, qP, va_K.moved (u := U) (U := U.calling g mk a) (Vm.Alike.refl U.vm) qK, qD, va_Nw.same rfl rfl qN.1, va_Nw.same rfl rfl qN.2⟩, fun U hU hW => ⟨rfl, by rw [hU], by rw [hU]; exact hPc, va_K.moved hW.alike hex.2.2.2.1, hDc.weaken (fun _ _ _ _ => trivial), va_Nw.warmM hW hex.2.2.2.2.2.1, va_Nw.warmM hW hex.2.2.2.2.2.2⟩⟩ rfl hlen hl.1 hs.symm (lv_room hcat) d hce) hh.2.2 (fun q _ h => hFc q h) hFc (fun u t H1 locs1 htt hvm hp hB hz1 hk1 hS1 => ?_)
  obtain ⟨hP1, hK1, hD1⟩ := hB
  rw [htt] at hP1
  obtain ⟨hP2, hD2⟩ := va_join (wr := wr) (w1 := u) hh.1 hh.2.1 [i] isR hC hR hnd hdis hk1 hFc hP1 hD1
  exact kk u hp p e s m args below meth c H1 locs1 ls hx hb hm ho ht hex hl ⟨hP2, hD2, hS1⟩
end JI2
