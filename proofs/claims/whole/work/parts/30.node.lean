theorem wl_528 : (Jvm.Cond.classLink "AdaptiveTrees" (149 : Nat) "java/lang/IndexOutOfBoundsException") ∈ gW := List.mem_filter.mpr ⟨List.mem_append_right _ (List.mem_append_right _ (List.mem_append_right _ (List.mem_append_left _ (List.mem_of_getElem? (i := 2) rfl)))), rfl⟩
theorem wl_529 : (Jvm.Cond.instantiable "java/lang/IndexOutOfBoundsException" (6 : Nat)) ∈ gW := List.mem_filter.mpr ⟨List.mem_append_right _ (List.mem_append_right _ (List.mem_append_right _ (List.mem_append_left _ (List.mem_of_getElem? (i := 3) rfl)))), rfl⟩
theorem wl_57 : (Jvm.Cond.initialized "java/lang/IndexOutOfBoundsException") ∈ gW := List.mem_filter.mpr ⟨List.mem_append_right _ (List.mem_append_left _ (List.mem_of_getElem? (i := 11) rfl)), rfl⟩
/-! THE THROW, ITS CATCH, AND THE LAW's OWN 'node'. -/
def xN : String := "java/lang/IndexOutOfBoundsException"
def xUp : List String := ["java/lang/RuntimeException", "java/lang/Exception"]
def exW : List Cond := Bundle.ownAtoms "AdaptiveTrees" 153 xN xUp
def exG : List Cond := exW.filter (fun w => w.onTables && w.keepsFace)
def exL1 : Cond := .laysStatic Bundle.tN "UNASSIGNED_STACK" Bundle.steD
def exL2 : Cond := .laysStatic Bundle.tN "SUPPRESSED_SENTINEL" Bundle.listD
def exR1 : Cond := .isRef (.static Bundle.tN "UNASSIGNED_STACK" Bundle.steD)
def exR2 : Cond := .isRef (.static Bundle.tN "SUPPRESSED_SENTINEL" Bundle.listD)
theorem exW_rest : exW.filter (fun w => !(w.onTables && w.keepsFace)) = [exL1, exL2, exR1, exR2] := rfl
theorem exW_split : ∀ w ∈ exW, w ∈ exG ∨ w = exL1 ∨ w = exL2 ∨ w = exR1 ∨ w = exR2 := by
  intro w hw
  by_cases hg : (w.onTables && w.keepsFace) = true
  · exact Or.inl (List.mem_filter.mpr ⟨hw, hg⟩)
  · have h : w ∈ exW.filter (fun w => !(w.onTables && w.keepsFace)) := List.mem_filter.mpr ⟨hw, by simp only [Bool.not_eq_true] at hg; rw [hg]; rfl⟩
    rw [exW_rest] at h
    simp only [List.mem_cons, List.not_mem_nil, or_false] at h
    exact Or.inr h
/-- a static of Throwable's that holds a reference or null, in a cell that isn't of the kind B -/
def exS (n d : String) (B : Nat → Prop) (U : State) (H : Heap) : Prop := ∃ (c : ClassId) (k : Class) (i : Nat) (f : Field) (a : Nat) (cell : Cell) (u : Value), U.vm.findClass Bundle.tN = some c ∧ U.fieldFound? Bundle.tN n d = some (c, k, i, f) ∧ f.isStatic = true ∧ k.statics = some a ∧ H[a]? = some cell ∧ cell.vm.isStatics = true ∧ cell.cls = c ∧ f.slot < cell.slots.size ∧ k.staticTypes[f.slot]? = some f.type ∧ cell.slots[f.slot]? = some u ∧ (u = .null ∨ ∃ x, u = .ref x) ∧ ¬ B a
theorem exS.at {n d : String} {B : Nat → Prop} {s U : State} {H H1 : Heap} (h : exS n d B s H) (hvm : s.vm.Alike U.vm) (hH : ∀ q : Nat, q < H.size → ¬ B q → H1[q]? = H[q]?) : exS n d B U H1 := by
  obtain ⟨c, k, i, f, a, cell, u, h0, h1, h2, h3, h4, h5, h6, h7, h8, h9, h10, h11⟩ := h
  obtain ⟨k', hi', he⟩ := State.fieldFound?_setVm hvm h1
  exact ⟨c, k', i, f, a, cell, u, by rw [hvm.findClass]; exact h0, hi', h2, by rw [he]; exact h3, by rw [hH a (Array.getElem?_eq_some_iff.mp h4).1 h11]; exact h4, h5, h6, h7, by rw [he]; exact h8, h9, h10, h11⟩
theorem exS.lays {n d : String} {B : Nat → Prop} {U : State} {A : Array Value} (h : exS n d B U U.heap) : (Cond.laysStatic Bundle.tN n d).before A U = true := by
  obtain ⟨c, k, i, f, a, cell, u, h0, h1, h2, h3, h4, h5, h6, h7, h8, -⟩ := h
  exact Cond.laysStatic_of h0 h1 h2 h3 h4 h5 h6 h7 h8
theorem exS.isRef {n d : String} {B : Nat → Prop} {U : State} {A : Array Value} (h : exS n d B U U.heap) : (Cond.isRef (.static Bundle.tN n d)).before A U = true := by
  obtain ⟨c, k, i, f, a, cell, u, h0, h1, h2, h3, h4, h5, h6, h7, h8, h9, h10, -⟩ := h
  have hv : (Term.static Bundle.tN n d).eval A U none [] U = some u := by
    simp [Term.eval, State.fieldNamed?, h1, h2, h3, h4, h5, h9]
  rcases h10 with rfl | ⟨x, rfl⟩ <;> simp [Cond.before, Cond.holds, Cond.value, hv]
theorem exS.of {n d : String} {B : Nat → Prop} {s : State} {A : Array Value} (hl : (Cond.laysStatic Bundle.tN n d).before A s = true) (hr : (Cond.isRef (.static Bundle.tN n d)).before A s = true) (hB : ∀ a : Nat, a < s.heap.size → ¬ B a) : exS n d B s s.heap := by
  obtain ⟨c, k, i, f, a, cell, hc, hi, hst, ha, hcell, hs, hcls, hlt, hty⟩ := Cond.laysStatic_spec hl
  cases hv : (Term.static Bundle.tN n d).eval A s none [] s with
  | none => simp [Cond.before, Cond.holds, Cond.value, hv] at hr
  | some w =>
    obtain ⟨-, a', cell', ha', hcell', -, hslot⟩ := Term.static_spec hi hv
    cases ha.symm.trans ha'
    cases hcell.symm.trans hcell'
    refine ⟨c, k, i, f, a, cell, w, hc, hi, hst, ha, hcell, hs, hcls, hlt, hty, hslot, ?_, hB a (Array.getElem?_eq_some_iff.mp hcell).1⟩
    simp only [Cond.before, Cond.holds, Cond.value, hv] at hr
    cases w with
    | null => exact Or.inl rfl
    | ref t => exact Or.inr ⟨t, rfl⟩
    | _ => simp at hr
/-- all that a throw needs of a state -/
def vEx (B : Nat → Prop) (U : State) (H : Heap) : Prop := (∀ w ∈ exG, va_Nw w U) ∧ exS "UNASSIGNED_STACK" Bundle.steD B U H ∧ exS "SUPPRESSED_SENTINEL" Bundle.listD B U H ∧ (∃ q, vk_R "AdaptiveTrees" 151 "no such end or tree" q U) ∧ (∃ q, vk_R "AdaptiveTrees" 159 "no such node" q U) ∧ ∃ q, vk_R "AdaptiveTrees" 173 "a node has no such number" q U
theorem exG_spec {w : Cond} (h : w ∈ exG) : w.onTables = true ∧ w.keepsFace = true := by
  have := (List.mem_filter.mp h).2
  simpa using this
theorem vEx.at {B : Nat → Prop} {s U : State} {H H1 : Heap} (h : vEx B s H) (hW : s.WarmedH U.vm) (hH : ∀ q : Nat, q < H.size → ¬ B q → H1[q]? = H[q]?) : vEx B U H1 := by
  obtain ⟨h0, h1, h2, ⟨q3, h3⟩, ⟨q4, h4⟩, ⟨q5, h5⟩⟩ := h
  refine ⟨fun w hw => ?_, h1.at hW.alike hH, h2.at hW.alike hH, ⟨q3, h3.warm hW⟩, ⟨q4, h4.warm hW⟩, ⟨q5, h5.warm hW⟩⟩
  exact va_tabs (exG_spec hw).1 (rfl : (s.setVm U.vm).vm = U.vm) (Cond.before_shiftedFace (args := #[]) (State.Shifted.of_warmed hW) w (exG_spec hw).2 (h0 w hw))
theorem vEx.same {B : Nat → Prop} {s U : State} {H : Heap} (h : vEx B s H) (hv : s.vm = U.vm) : vEx B U H := by
  obtain ⟨h0, h1, h2, ⟨q3, h3⟩, ⟨q4, h4⟩, ⟨q5, h5⟩⟩ := h
  have ha : s.vm.Alike U.vm := by rw [hv]; exact Vm.Alike.refl _
  exact ⟨fun w hw => va_Nw.same (exG_spec hw).1 hv (h0 w hw), h1.at ha (fun _ _ _ => rfl), h2.at ha (fun _ _ _ => rfl), ⟨q3, h3.same hv.symm⟩, ⟨q4, h4.same hv.symm⟩, ⟨q5, h5.same hv.symm⟩⟩
theorem vEx.words {B : Nat → Prop} {U : State} {A : Array Value} (h : vEx B U U.heap) : ∀ w ∈ exW, w.before A U = true := by
  intro w hw
  rcases exW_split w hw with hg | rfl | rfl | rfl | rfl
  · exact va_Nw.use (exG_spec hg).1 (h.1 w hg)
  · exact h.2.1.lays
  · exact h.2.2.1.lays
  · exact h.2.1.isRef
  · exact h.2.2.1.isRef
/-- a throw's end: one new cell, an exception; all that was there before is as it was -/
def thQc (z : Nat) (st : State) (o : Outcome) (t : State) : Prop := ∃ (x : Addr) (ce : Cell), o = .threw x ∧ t.heap[x]? = some ce ∧ ce.vm.isStatics = false ∧ st.vm.findClass xN = some ce.cls ∧ st.vm.assignable ce.cls ce.cls = true ∧ t.heap.size = z + 1 ∧ (∀ q : Nat, q < z → t.heap[q]? = st.heap[q]?) ∧ st.WarmedH t.vm ∧ st.sameButNew ({ t with vm := st.vm } : State) [] 1 6
theorem same_nil {s t : State} {k n : Nat} (h : s.sameButNew t [] k n) {a : Nat} (ha : a < s.heap.size) : t.heap[a]? = s.heap[a]? := by
  obtain ⟨-, -, -, -, -, h6⟩ := h
  have hc : s.heap[a]? = some (s.heap[a]) := Array.getElem?_eq_getElem ha
  obtain ⟨c', h1, h2, -, h4⟩ := h6 a _ hc
  have h5 : c'.slots = (s.heap[a]).slots := Array.ext_getElem? (fun i => h4 i List.not_mem_nil)
  rw [h1, hc, h2, h5]
def vPe (B : Nat → Prop) (D : va_G) (dA : Nat → ClassId) (av : List Value) (h : Hp) (sz : Nat) : Array Value → State → Prop := va_Pc av (fun U => U.heap.size = sz ∧ hI D dA (fun _ => True) h U.heap ∧ va_K D vwCl (vTy dA) U ∧ vNx U ∧ vEx B U U.heap)
set_option maxHeartbeats 4000000 in
set_option maxRecDepth 100000 in
theorem v_thr {ρ : Type} {p : Program} {l : Launch} {e : Env} {s : State} {m : MethodId} {args : Array Value} {below : List Frame} {meth : Method} {c : Code} {D : va_G} {dA : Nat → ClassId} {cc : ByteArray} {nL : Nat} {ret : Option FieldType} {h0 : Hp} {z0 : Nat} {Q : ρ → State → Prop} {x : ρ} {lv : List (Nat × Value)} {pc idx : Nat} {tx : String} {B : Nat → Prop}
    (C : vC p s m args meth c D dA (vA h0 z0) cc nL "AdaptiveTrees" ret) (hfl : l.flags = flags0) (hEx : vEx B s s.heap) (hemp : c.exceptionTable.isEmpty = true) (hstr : ∃ q, vk_R "AdaptiveTrees" idx tx q s)
    (hw1 : Cond.classLink "AdaptiveTrees" 149 xN ∈ gW) (hw2 : Cond.instantiable xN 6 ∈ gW) (hw3 : Cond.initialized xN ∈ gW)
    (d0 : decode cc pc = .ok (.new 149, 3)) (d3 : decode cc (pc + 3) = .ok (.dup, 1)) (d4 : decode cc (pc + 3 + 1) = .ok (.ldc idx, 2)) (d6 : decode cc (pc + 3 + 1 + 2) = .ok (.invokespecial 153, 3)) (d9 : decode cc (pc + 3 + 1 + 2 + 3) = .ok (.athrow, 1))
    (hQ : ∀ o t, t.status = .running → Ended t below o → thQc z0 s o t → Q x t) : vO p l e (vR 6 1 6) s m args below meth c D dA (vA h0 z0) nL True Q 0 0 h0 z0 lv pc [] (some x) := by
  intro r hr H locs ls hh hz hS hJ hl
  cases hr
  obtain ⟨hH, hlo⟩ := hJ trivial
  subst hlo
  subst hH
  obtain ⟨qs, hstr⟩ := hstr
  have hts := C.2.2.2.2.1
  obtain ⟨cX, kX, hfX, hkX, -⟩ := Cond.instantiable_spec (hts _ hw2)
  refine W.newcK C.1 C.2.1 C.2.2.2.1 (hts _ hw1) (hts _ hw2) (hts _ hw3) rfl d0 (Nat.le_of_ble_eq_true rfl) (Nat.le_of_ble_eq_true rfl) hfX rfl fun H1 kC hkC e1 z1 o1 => ?_
  refine lv_dup C.1 C.2.1 d3 rfl ?_
  refine va_ldcS C.1 C.2.1 C.2.2.2.1 hstr d4 ?_
  intro T hT X
  obtain ⟨U, hsteps, hrun, hend, hW, hsame, ce, hce, K⟩ := X.ctorThrowS C.1 (Launch.traces_off hfl X.admits) (own := "AdaptiveTrees") (cls := xN) (names := xUp) (ic := 153) C.2.2.2.1 (by decide +kernel) (by decide +kernel) hEx.words (fun y hy => by cases hy) (a := s.heap.size) hfX hkC (by rw [hT]; exact e1) (Nat.le_refl _) (msg := .ref qs) rfl
    (g := F0 m (pc + 3 + 1 + 2) ls [.ref qs, .ref s.heap.size, .ref s.heap.size]) rfl (by rw [C.2.2.1]; exact hl.1) rfl rfl (rest := []) rfl (by rw [C.2.1]; exact d6) (by rw [C.2.1]; exact d9) (covers_of_empty hemp _) (Nat.le_of_ble_eq_true rfl) (Nat.le_of_ble_eq_true rfl) C.2.2.2.2.2.2.2.1
  refine ⟨U, hsteps, hQ _ U hrun hend ⟨_, ce, rfl, hce, by rw [K.vm]; rfl, K.cls, K.self, ?_, fun q hq => ?_, hW, hsame⟩⟩
  · have g1 : s.heap.size < U.heap.size := (Array.getElem?_eq_some_iff.mp hce).1
    have g2 : U.heap.size ≤ s.heap.size + 1 := hsame.2.2.1
    omega
  · exact same_nil hsame (by rw [hz]; exact hq)
theorem v_iretW {ρ : Type} {p : Program} {l : Launch} {e : Env} {R : Room} {s : State} {m : MethodId} {args : Array Value} {below : List Frame} {meth : Method} {c : Code} {D : va_G} {dA : Nat → ClassId} {h0 : Hp} {sz0 : Nat} {cc : ByteArray} {nL : Nat} {own : String} {rd : Prop} {Q : ρ → State → Prop} {k n mc ms : Nat} {h : Hp} {sz : Nat} {lv : List (Nat × Value)} {pc : Nat} {x : ρ} (C : vC p s m args meth c D dA (vA h0 sz0) cc nL own (some .int)) (hd : decode cc pc = .ok (.ireturn, 1)) {v : Int32} (hkn : k ≤ mc ∧ n ≤ ms) (hQ : Q x = MQ below (vQc rd h0 sz0 D dA h sz (some (.int v))) args s mc ms (vAr rd h0 sz0)) : vO p l e R s m args below meth c D dA (vA h0 sz0) nL rd Q k n h sz lv pc [.int v] (some x) := by
  intro r hr H locs ls hh hz hS hJ hl
  cases hr
  rw [hQ]
  refine W.widen (k := mc) (n := ms) hkn.1 hkn.2 ?_
  exact W.iret (v := v) C.1 C.2.1 C.2.2.2.2.2.2.2.2.1 (fun t ht hW => ⟨rfl, by rw [ht]; exact hh, by rw [ht]; exact hz, hS.F ht, fun hrd => by rw [ht]; exact (hJ hrd).1⟩) (vAr_locs (fun hrd => (hJ hrd).2) hS.2.2) hd C.2.2.2.2.2.2.2.1
/-- a contract whose end the writer says: QQ; the start has vEx too -/
theorem vMx_of {l : Launch} {y : MethodName} {ws : List Cond} {d : Nat} {av : List Value} {h : Hp} {sz : Nat} {mc ms : Nat} {cc : ByteArray} {nL : Nat} {ret : Option FieldType} {B : Nat → Prop} {D : va_G} {dA : Nat → ClassId} {QQ : Array Value → State → Outcome → State → Prop} (hy : plainName y.cls = true) (hw : ws = Cond.code y cc nL ret :: gW) (hlen : (lg_sl av).length ≤ nL)
    (body : ∀ (p : Program) (e : Env) (s : State) (m : MethodId) (args : Array Value) (below : List Frame) (meth : Method) (c : Code), vC p s m args meth c D dA (vA h sz) cc nL y.cls ret → meth.name = y.name → vEx B s s.heap → c.exceptionTable.isEmpty = true →
      vS p l e (vR d mc ms) s m args below meth c D dA (vA h sz) nL True (fun t => ∃ o, t.status = .running ∧ Ended t below o ∧ QQ args s o t) 0 0 h sz (lv_args 0 av) 0 []) : MetFree l y (headSpec ws (vR d mc ms)) (vPe B D dA av h sz) (fun _ _ _ _ _ => True) QQ := by
  refine MetFree.of_bodyS (code := cc) (maxLocals := nL) (ret := ret) hy ?_ ?_
  · intro args s m h hn
    obtain ⟨meth, c, h1, h2, h3, h4, h5, h6, -, -⟩ := Cond.code_spec hn (atoms_spec (ws := ws) h _ (by rw [hw]; exact List.mem_cons_self))
    exact ⟨meth, c, h1, h2, h3, h4, h5, h6⟩
  · intro p e s m args below meth c s₁ Bd hml hv _
    obtain ⟨rfl, hsz, hP, hK, hN, hE⟩ := hv
    have hC : vC p s m av.toArray meth c D dA (vA h sz) cc nL y.cls ret := ⟨Bd.exec, Bd.bytes, hml, findClass_of_methodNamed Bd.named, fun w hw' => atoms_spec (ws := ws) Bd.pre w (by rw [hw]; exact List.mem_cons_of_mem _ hw'), hK, fun q hq => Or.inr (by rw [← hsz]; exact hq), Bd.notSynchronized, Bd.returns, hN⟩
    have hnh := Bd.noHandlers (atoms_spec (ws := ws) Bd.pre _ (by rw [hw]; exact List.mem_cons_self))
    have hb := body p e s m _ below meth c hC (name_of_methodNamed Bd.named Bd.method).1 hE hnh s.heap [] _ (hP.self sz) hsz va_S.rf (fun _ => ⟨rfl, rfl⟩) (lv_entry av hlen)
    have hh0 : s₁.heap = s.heap := by rw [Bd.state]; rfl
    rw [← lg_entry_eq] at hb
    obtain ⟨t, a1, o, b1, b2, b3⟩ := hb s₁ hh0 (Stand.of_body Bd)
    exact ⟨t, o, a1, b1, b2, b3⟩
section VLaw
variable {ρ : Type} {p : Program} {l : Launch} {e : Env} {R : Room} {s : State} {m : MethodId} {args : Array Value} {below : List Frame} {meth : Method} {c : Code} {D : va_G} {dA : Nat → ClassId} {A : Nat → Prop} {cc : ByteArray} {nL : Nat} {own : String} {ret : Option FieldType} {rd : Prop} {Q : ρ → State → Prop} {k n : Nat} {h : Hp} {sz : Nat} {lv lv' : List (Nat × Value)} {pc : Nat} {st : List Value} {o o1 o2 : Option ρ} {b L : Nat} {xs : Nat → Int32}
/-- a switch, case by case: the machine stays at it where the case isn't the one -/
theorem v_swc (a : Int) (ka : Nat) {dflt lo hi off : Int} {offs : Array Int} {len tgt : Nat} {x : Int32} (C : vC p s m args meth c D dA A cc nL own ret) (hd : decode cc pc = .ok (.tableswitch dflt lo hi offs, len)) (h1 : ¬ a < lo) (h2 : ¬ hi < a) (ho : offs[(a - lo).toNat]? = some off) (ht : (pc : Int) + off = (tgt : Int)) (kt : vO p l e R s m args below meth c D dA A nL rd Q k n h sz lv tgt st o1) (kf : ¬ x.toInt = a → vO p l e R s m args below meth c D dA A nL rd Q k n h sz lv pc (.int x :: st) o2) : vO p l e R s m args below meth c D dA A nL rd Q k n h sz lv pc (.int x :: st) (if x.toInt = a then o1 else o2) := by
  intro r hr H locs ls hh hz hS hJ hl
  by_cases hx : x.toInt = a
  · rw [if_pos hx] at hr
    exact lv_tableIn C.1 C.2.1 hd (by rw [hx]; exact h1) (by rw [hx]; exact h2) (by rw [hx]; exact ho) ht (kt r hr H locs ls hh hz hS hJ hl)
  · rw [if_neg hx] at hr
    exact kf hx r hr H locs ls hh hz hS hJ hl
theorem v_swd {dflt lo hi : Int} {offs : Array Int} {len tgt : Nat} {x : Int32} (C : vC p s m args meth c D dA A cc nL own ret) (hd : decode cc pc = .ok (.tableswitch dflt lo hi offs, len)) (hx : x.toInt < lo ∨ hi < x.toInt) (ht : (pc : Int) + dflt = (tgt : Int)) (kk : vO p l e R s m args below meth c D dA A nL rd Q k n h sz lv tgt st o) : vO p l e R s m args below meth c D dA A nL rd Q k n h sz lv pc (.int x :: st) o :=
  fun r hr H locs ls hh hz hS hJ hl => lv_tableOut C.1 C.2.1 hd hx ht (kk r hr H locs ls hh hz hS hJ hl)
end VLaw
theorem dA_node_0 : decode prog_1_method_17_code 0 = .ok (.iload_n 1, 1) := by decide +kernel
theorem dA_node_1 : decode prog_1_method_17_code 1 = .ok (.invokestatic 123, 3) := by decide +kernel
theorem dA_node_4 : decode prog_1_method_17_code 4 = .ok (.ifCond .eq 10, 3) := by decide +kernel
theorem dA_node_7 : decode prog_1_method_17_code 7 = .ok (.iload_n 2, 1) := by decide +kernel
theorem dA_node_8 : decode prog_1_method_17_code 8 = .ok (.invokestatic 83, 3) := by decide +kernel
theorem dA_node_11 : decode prog_1_method_17_code 11 = .ok (.ifCond .ne 13, 3) := by decide +kernel
theorem dA_node_14 : decode prog_1_method_17_code 14 = .ok (.new 149, 3) := by decide +kernel
theorem dA_node_17 : decode prog_1_method_17_code 17 = .ok (.dup, 1) := by decide +kernel
theorem dA_node_18 : decode prog_1_method_17_code 18 = .ok (.ldc 151, 2) := by decide +kernel
theorem dA_node_20 : decode prog_1_method_17_code 20 = .ok (.invokespecial 153, 3) := by decide +kernel
theorem dA_node_23 : decode prog_1_method_17_code 23 = .ok (.athrow, 1) := by decide +kernel
theorem dA_node_24 : decode prog_1_method_17_code 24 = .ok (.aload_n 0, 1) := by decide +kernel
theorem dA_node_25 : decode prog_1_method_17_code 25 = .ok (.iload_n 1, 1) := by decide +kernel
theorem dA_node_26 : decode prog_1_method_17_code 26 = .ok (.iload_n 2, 1) := by decide +kernel
theorem dA_node_27 : decode prog_1_method_17_code 27 = .ok (.invokevirtual 126, 3) := by decide +kernel
theorem dA_node_30 : decode prog_1_method_17_code 30 = .ok (.astore 5, 2) := by decide +kernel
theorem dA_node_32 : decode prog_1_method_17_code 32 = .ok (.aload 5, 2) := by decide +kernel
theorem dA_node_34 : decode prog_1_method_17_code 34 = .ok (.iload_n 3, 1) := by decide +kernel
theorem dA_node_35 : decode prog_1_method_17_code 35 = .ok (.invokevirtual 156, 3) := by decide +kernel
theorem dA_node_38 : decode prog_1_method_17_code 38 = .ok (.ifCond .ne 13, 3) := by decide +kernel
theorem dA_node_41 : decode prog_1_method_17_code 41 = .ok (.new 149, 3) := by decide +kernel
theorem dA_node_44 : decode prog_1_method_17_code 44 = .ok (.dup, 1) := by decide +kernel
theorem dA_node_45 : decode prog_1_method_17_code 45 = .ok (.ldc 159, 2) := by decide +kernel
theorem dA_node_47 : decode prog_1_method_17_code 47 = .ok (.invokespecial 153, 3) := by decide +kernel
theorem dA_node_50 : decode prog_1_method_17_code 50 = .ok (.athrow, 1) := by decide +kernel
theorem dA_node_51 : decode prog_1_method_17_code 51 = .ok (.iload 4, 2) := by decide +kernel
theorem dA_node_84 : decode prog_1_method_17_code 84 = .ok (.aload 5, 2) := by decide +kernel
theorem dA_node_86 : decode prog_1_method_17_code 86 = .ok (.iload_n 3, 1) := by decide +kernel
theorem dA_node_87 : decode prog_1_method_17_code 87 = .ok (.invokevirtual 161, 3) := by decide +kernel
theorem dA_node_90 : decode prog_1_method_17_code 90 = .ok (.ireturn, 1) := by decide +kernel
theorem dA_node_91 : decode prog_1_method_17_code 91 = .ok (.aload 5, 2) := by decide +kernel
theorem dA_node_93 : decode prog_1_method_17_code 93 = .ok (.iload_n 3, 1) := by decide +kernel
theorem dA_node_94 : decode prog_1_method_17_code 94 = .ok (.invokevirtual 164, 3) := by decide +kernel
theorem dA_node_97 : decode prog_1_method_17_code 97 = .ok (.ireturn, 1) := by decide +kernel
theorem dA_node_98 : decode prog_1_method_17_code 98 = .ok (.aload 5, 2) := by decide +kernel
theorem dA_node_100 : decode prog_1_method_17_code 100 = .ok (.iload_n 3, 1) := by decide +kernel
theorem dA_node_101 : decode prog_1_method_17_code 101 = .ok (.invokevirtual 167, 3) := by decide +kernel
theorem dA_node_104 : decode prog_1_method_17_code 104 = .ok (.ireturn, 1) := by decide +kernel
theorem dA_node_105 : decode prog_1_method_17_code 105 = .ok (.aload 5, 2) := by decide +kernel
theorem dA_node_107 : decode prog_1_method_17_code 107 = .ok (.iload_n 3, 1) := by decide +kernel
theorem dA_node_108 : decode prog_1_method_17_code 108 = .ok (.iconst 0, 1) := by decide +kernel
theorem dA_node_109 : decode prog_1_method_17_code 109 = .ok (.invokevirtual 170, 3) := by decide +kernel
theorem dA_node_112 : decode prog_1_method_17_code 112 = .ok (.ireturn, 1) := by decide +kernel
theorem dA_node_113 : decode prog_1_method_17_code 113 = .ok (.new 149, 3) := by decide +kernel
theorem dA_node_116 : decode prog_1_method_17_code 116 = .ok (.dup, 1) := by decide +kernel
theorem dA_node_117 : decode prog_1_method_17_code 117 = .ok (.ldc 173, 2) := by decide +kernel
theorem dA_node_119 : decode prog_1_method_17_code 119 = .ok (.invokespecial 153, 3) := by decide +kernel
theorem dA_node_122 : decode prog_1_method_17_code 122 = .ok (.athrow, 1) := by decide +kernel
theorem dA_node_53 : decode prog_1_method_17_code 53 = .ok (.tableswitch 60 0 3 #[31, 38, 45, 52], 31) := by decide +kernel
def FA_node (h0 : Hp) (a0 : Nat) (p1 : Int32) (p2 : Int32) (p3 : Int32) (p4 : Int32) : Option (Option Int32) :=
  (FA_isEnd h0 p1).bind (fun r1 =>
  jn (some none)
  (fun (j2 : Option (Option Int32)) =>
  if r1 = 0 then
    (j2)
  else
    ((FA_isTree h0 p2).bind (fun r3 =>
    if r3 = 0 then
      (j2)
    else
      (gd (isO h0 a0 4 = true) ((FA_treeOf h0 a0 p1 p2).bind (fun r5 =>
      gd (isO h0 r5 3 = true) ((FT_hasNode h0 r5 p3).bind (fun r7 =>
      if r7 = 0 then
        (some none)
      else
        (if (p4).toInt = 0 then
          (gd (isO h0 r5 3 = true) ((FT_countAt h0 r5 p3).bind (fun r9 =>
          some (some r9))))
        else if (p4).toInt = 1 then
          (gd (isO h0 r5 3 = true) ((FT_signAt h0 r5 p3).bind (fun r11 =>
          some (some r11))))
        else if (p4).toInt = 2 then
          (gd (isO h0 r5 3 = true) ((FT_parentOf h0 r5 p3).bind (fun r13 =>
          some (some r13))))
        else if (p4).toInt = 3 then
          (gd (isO h0 r5 3 = true) ((FT_childOf h0 r5 p3 0).bind (fun r15 =>
          some (some r15))))
        else (some none)))))))))))
def nodeQ (D : va_G) (dA : Nat → ClassId) (h0 : Hp) (z0 : Nat) (r : Option Int32) : Array Value → State → Outcome → State → Prop := match r with
  | some v => fun a st o t => vQc True h0 z0 D dA h0 z0 (some (.int v)) a st o t ∧ ∃ L, FrameEnd st o t L 1 6 ∧ ∀ q ∈ L, vAr True h0 z0 q.base
  | none => fun _ st o t => thQc z0 st o t
set_option maxRecDepth 100000 in
set_option maxHeartbeats 4000000 in
/-- node: it answers, or it throws -/
theorem mA_node (l : Launch) (hfl : l.flags = flags0) (B : Nat → Prop) (D : va_G) (dA : Nat → ClassId) (h0 : Hp) (z0 a0 : Nat) (p1 p2 p3 p4 : Int32) (r : Option Int32) (hr : FA_node h0 a0 p1 p2 p3 p4 = some r) : MetFree l yA_node (headSpec (Cond.code yA_node prog_1_method_17_code 6 (some .int) :: gW) (vR 6 1 6)) (vPe B D dA [.ref a0, .int p1, .int p2, .int p3, .int p4] h0 z0) (fun _ _ _ _ _ => True) (nodeQ D dA h0 z0 r) := by
  refine vMx_of (by decide) rfl (Nat.le_of_ble_eq_true rfl) ?_
  intro p e s m args below meth c C hin2 hEx hemp
  refine (?_ : vO p l e (vR 6 1 6) s m args below meth c D dA (vA h0 z0) 6 True (fun (r : Option Int32) (t : State) => ∃ o, t.status = .running ∧ Ended t below o ∧ nodeQ D dA h0 z0 r args s o t) 0 0 h0 z0 [(0, .ref a0), (1, .int p1), (2, .int p2), (3, .int p3), (4, .int p4)] 0 [] (FA_node h0 a0 p1 p2 p3 p4)) r hr
  obtain ⟨Q, hQ⟩ : ∃ Q : Option Int32 → State → Prop, Q = (fun (r : Option Int32) (t : State) => ∃ o, t.status = .running ∧ Ended t below o ∧ nodeQ D dA h0 z0 r args s o t) := ⟨_, rfl⟩
  rw [← hQ]
  unfold FA_node
  refine v_iload_n C dA_node_0 rfl 1 rfl ?_
  refine v_bind fun r1 hr1 => ?_
  refine v_callS0 (N := 1) (As := [.int p1]) (st := []) C (fun _ => trivial) (mA_isEnd l h0 z0 p1 r1 hr1) rfl w_435 w_47 (by decide +kernel) ⟨Nat.le_of_ble_eq_true rfl, Nat.le_of_ble_eq_true rfl⟩ rfl rfl (Nat.le_of_ble_eq_true rfl) ⟨Nat.zero_le _, Nat.zero_le _⟩ w_433 w_434 dA_node_1 ?_
  refine v_jn (fun (j : Option (Option Int32)) => vO p l e (vR 6 1 6) s m args below meth c D dA (vA h0 z0) 6 True Q 0 0 h0 z0 [] 14 [] j) ?_ (fun j2 Hj2 => ?_)
  · exact v_thr (pc := 14) C hfl hEx hemp hEx.2.2.2.1 wl_528 wl_529 wl_57 dA_node_14 dA_node_17 dA_node_18 dA_node_20 dA_node_23 (fun o t g1 g2 g3 => by rw [hQ]; exact ⟨o, g1, g2, g3⟩)
  · refine v_if_eq (tgt := 14) C dA_node_4 (by decide) ?_ ?_
    · refine v_lv (lv' := []) [] rfl ?_
      exact Hj2
    · refine v_iload_n C dA_node_7 rfl 2 rfl ?_
      refine v_bind fun r3 hr3 => ?_
      refine v_callS0 (N := 1) (As := [.int p2]) (st := []) C (fun _ => trivial) (mA_isTree l h0 z0 p2 r3 hr3) rfl w_244 w_47 (by decide +kernel) ⟨Nat.le_of_ble_eq_true rfl, Nat.le_of_ble_eq_true rfl⟩ rfl rfl (Nat.le_of_ble_eq_true rfl) ⟨Nat.zero_le _, Nat.zero_le _⟩ w_242 w_243 dA_node_8 ?_
      refine v_if_ne (tgt := 24) C dA_node_11 (by decide) ?_ ?_
      · refine v_aload_n C dA_node_24 rfl 0 rfl ?_
        refine v_iload_n C dA_node_25 rfl 1 rfl ?_
        refine v_iload_n C dA_node_26 rfl 2 rfl ?_
        refine v_gd fun hO4 => ?_
        refine v_bind fun r5 hr5 => ?_
        refine v_callV0 (N := 2) (As := [.int p1, .int p2]) (st := []) C (fun _ => trivial) (mA_treeOf l h0 z0 a0 p1 p2 r5 hr5) rfl w_439 w_47 (by decide +kernel) ⟨Nat.le_of_ble_eq_true rfl, Nat.le_of_ble_eq_true rfl⟩ rfl rfl (Nat.le_of_ble_eq_true rfl) ⟨Nat.zero_le _, Nat.zero_le _⟩ w_436 w_438 w_18 v_cl4 rfl hO4 dA_node_27 ?_
        refine v_astore (lv' := [(3, .int p3), (4, .int p4), (5, .ref r5)]) C dA_node_30 (by decide) [4, 5, 0] rfl ?_
        refine v_aload C dA_node_32 2 rfl ?_
        refine v_iload_n C dA_node_34 rfl 0 rfl ?_
        refine v_gd fun hO6 => ?_
        refine v_bind fun r7 hr7 => ?_
        refine v_callV0 (N := 1) (As := [.int p3]) (st := []) C (fun _ => trivial) (mT_hasNode l h0 z0 r5 p3 r7 hr7) rfl w_159 w_52 (by decide +kernel) ⟨Nat.le_of_ble_eq_true rfl, Nat.le_of_ble_eq_true rfl⟩ rfl rfl (Nat.le_of_ble_eq_true rfl) ⟨Nat.zero_le _, Nat.zero_le _⟩ w_594 w_157 w_158 v_cl3 rfl hO6 dA_node_35 ?_
        refine v_if_ne (tgt := 51) C dA_node_38 (by decide) ?_ ?_
        · refine v_iload C dA_node_51 1 rfl ?_
          refine v_swc 0 0 (tgt := 84) C dA_node_53 (by decide) (by decide) rfl (by decide) ?_ (fun hs0 => ?_)
          · refine v_aload C dA_node_84 2 rfl ?_
            refine v_iload_n C dA_node_86 rfl 0 rfl ?_
            refine v_gd fun hO8 => ?_
            refine v_bind fun r9 hr9 => ?_
            refine v_callV0 (N := 1) (As := [.int p3]) (st := []) C (fun _ => trivial) (mT_countAt l h0 z0 r5 p3 r9 hr9) rfl w_344 w_52 (by decide +kernel) ⟨Nat.le_of_ble_eq_true rfl, Nat.le_of_ble_eq_true rfl⟩ rfl rfl (Nat.le_of_ble_eq_true rfl) ⟨Nat.zero_le _, Nat.zero_le _⟩ w_596 w_342 w_343 v_cl3 rfl hO8 dA_node_87 ?_
            exact v_iretW (mc := 1) (ms := 6) C dA_node_90 ⟨Nat.le_of_ble_eq_true rfl, Nat.le_of_ble_eq_true rfl⟩ (by rw [hQ]; rfl)
          refine v_swc 1 1 (tgt := 91) C dA_node_53 (by decide) (by decide) rfl (by decide) ?_ (fun hs1 => ?_)
          · refine v_aload C dA_node_91 2 rfl ?_
            refine v_iload_n C dA_node_93 rfl 0 rfl ?_
            refine v_gd fun hO10 => ?_
            refine v_bind fun r11 hr11 => ?_
            refine v_callV0 (N := 1) (As := [.int p3]) (st := []) C (fun _ => trivial) (mT_signAt l h0 z0 r5 p3 r11 hr11) rfl w_360 w_52 (by decide +kernel) ⟨Nat.le_of_ble_eq_true rfl, Nat.le_of_ble_eq_true rfl⟩ rfl rfl (Nat.le_of_ble_eq_true rfl) ⟨Nat.zero_le _, Nat.zero_le _⟩ w_411 w_358 w_359 v_cl3 rfl hO10 dA_node_94 ?_
            exact v_iretW (mc := 1) (ms := 6) C dA_node_97 ⟨Nat.le_of_ble_eq_true rfl, Nat.le_of_ble_eq_true rfl⟩ (by rw [hQ]; rfl)
          refine v_swc 2 2 (tgt := 98) C dA_node_53 (by decide) (by decide) rfl (by decide) ?_ (fun hs2 => ?_)
          · refine v_aload C dA_node_98 2 rfl ?_
            refine v_iload_n C dA_node_100 rfl 0 rfl ?_
            refine v_gd fun hO12 => ?_
            refine v_bind fun r13 hr13 => ?_
            refine v_callV0 (N := 1) (As := [.int p3]) (st := []) C (fun _ => trivial) (mT_parentOf l h0 z0 r5 p3 r13 hr13) rfl w_294 w_52 (by decide +kernel) ⟨Nat.le_of_ble_eq_true rfl, Nat.le_of_ble_eq_true rfl⟩ rfl rfl (Nat.le_of_ble_eq_true rfl) ⟨Nat.zero_le _, Nat.zero_le _⟩ w_597 w_292 w_293 v_cl3 rfl hO12 dA_node_101 ?_
            exact v_iretW (mc := 1) (ms := 6) C dA_node_104 ⟨Nat.le_of_ble_eq_true rfl, Nat.le_of_ble_eq_true rfl⟩ (by rw [hQ]; rfl)
          refine v_swc 3 3 (tgt := 105) C dA_node_53 (by decide) (by decide) rfl (by decide) ?_ (fun hs3 => ?_)
          · refine v_aload C dA_node_105 2 rfl ?_
            refine v_iload_n C dA_node_107 rfl 0 rfl ?_
            refine v_iconst (v := 0) C dA_node_108 (by decide) ?_
            refine v_gd fun hO14 => ?_
            refine v_bind fun r15 hr15 => ?_
            refine v_callV0 (N := 2) (As := [.int p3, .int 0]) (st := []) C (fun _ => trivial) (mT_childOf l h0 z0 r5 p3 0 r15 hr15) rfl w_298 w_52 (by decide +kernel) ⟨Nat.le_of_ble_eq_true rfl, Nat.le_of_ble_eq_true rfl⟩ rfl rfl (Nat.le_of_ble_eq_true rfl) ⟨Nat.zero_le _, Nat.zero_le _⟩ w_420 w_296 w_297 v_cl3 rfl hO14 dA_node_109 ?_
            exact v_iretW (mc := 1) (ms := 6) C dA_node_112 ⟨Nat.le_of_ble_eq_true rfl, Nat.le_of_ble_eq_true rfl⟩ (by rw [hQ]; rfl)
          refine v_swd (tgt := 113) C dA_node_53 (by omega) (by decide) ?_
          exact v_thr (pc := 113) C hfl hEx hemp hEx.2.2.2.2.2 wl_528 wl_529 wl_57 dA_node_113 dA_node_116 dA_node_117 dA_node_119 dA_node_122 (fun o t g1 g2 g3 => by rw [hQ]; exact ⟨o, g1, g2, g3⟩)
        · exact v_thr (pc := 41) C hfl hEx hemp hEx.2.2.2.2.1 wl_528 wl_529 wl_57 dA_node_41 dA_node_44 dA_node_45 dA_node_47 dA_node_50 (fun o t g1 g2 g3 => by rw [hQ]; exact ⟨o, g1, g2, g3⟩)
      · refine v_lv (lv' := []) [] rfl ?_
        exact Hj2
