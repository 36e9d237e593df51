/-! A CALL THAT THROWS, AND THE CATCH IN THE CALLER's OWN TABLE (one entry) -/
section ThCall
variable {p : Program} {l : Launch} {e : Env} {R : Room} {s : State} {m : MethodId} {args : Array Value} {below : List Frame} {meth : Method} {c : Code} {T : State} {locs : List Loc} {cells slots : Nat}
set_option maxHeartbeats 2000000 in
theorem th_call (X : Stand p l e R s m args below meth c T locs cells slots) (hexec : p.tables.exec = Jvm.exec) {own : String} {index z : Nat} {y : MethodName} {bytes : ByteArray} {maxL : Nat} {ret : Option FieldType} {ws : List Cond} {rm : Room} {Pc : Array Value → State → Prop}
    (hown : s.vm.findClass own = some m.cls) (hlink : (Cond.methodLink own index y).before args s = true) (hinst : (Cond.instanceMethod y).before args s = true) (hsel : (Cond.selects y.cls y y).before args s = true) (hcw : Cond.code y bytes maxL ret ∈ ws) (hini : Cond.initialized y.cls ∈ ws) (hy : y.cls ≠ "java/lang/invoke/MethodHandle" ∧ y.cls ≠ "java/lang/invoke/VarHandle")
    (hM : MetFree l y (headSpec ws rm) Pc (fun _ _ _ _ _ => True) (fun _ st o t => thQc z st o t)) (hws : ∀ w ∈ ws, ∀ (a' : Array Value) (U : State), s.WarmedH U.vm → w.before a' U = true)
    (hrm : rm.cells = 1 ∧ rm.slots = 6) (hframes : rm.frames + 1 ≤ R.frames) (hlocals : 8 + (maxL + 11) + rm.locals ≤ R.locals) (hcs : cells + 1 ≤ R.cells ∧ slots + 6 ≤ R.slots)
    {b : Addr} {cellB : Cell} (hcell : T.heap[b]? = some cellB) (hobj : cellB.vm.isStatics = false) (hcls : s.vm.findClass y.cls = some cellB.cls)
    {g : JFrame} (hg : g.method = m) (hsize : g.locals.size = c.maxLocals) {argsL rest : List Value} (hlen : ∀ sig, parseMethodDescriptor y.desc = some sig → argsL.length = sig.parameters.length)
    (hstack : g.stack = argsL.reverse ++ .ref b :: rest) (hW : 2 * g.monitorRoom + (rest.map fun v => v.category).sum ≤ 8) (hdg : decode c.code g.pc = .ok (.invokevirtual index, 3))
    (hPc : ∀ (vm₁ : Vm) (g' : JFrame) (mk : MethodId), s.WarmedH vm₁ → Pc (Value.ref b :: argsL).toArray ((T.setVm vm₁).calling g' mk (Value.ref b :: argsL).toArray)) :
    ∃ (x : Addr) (ce : Cell) (T' : State), Stand p l e R s m args below meth c T' locs (cells + 1) (slots + 6) ∧ T'.heap[x]? = some ce ∧ ce.vm.isStatics = false ∧ s.vm.findClass xN = some ce.cls ∧ s.vm.assignable ce.cls ce.cls = true ∧ T'.heap.size = z + 1 ∧ (∀ q : Nat, q < z → T'.heap[q]? = T.heap[q]?) ∧
      ∀ target, Steps p.tables e below ((T'.setTop { g with stack := rest }).pushFrame (.throwing x)) target → Steps p.tables e below (T.setTop g) target := by
  have hcode := hws _ hcw args s (State.WarmedH.refl s)
  obtain ⟨mk, methM, hnamed, hmethM, hstM, habM⟩ := Cond.instanceMethod_spec hinst
  obtain ⟨methM', cM, hmethM', -, -, -, -, -, -, hsigM⟩ := Cond.code_spec hnamed hcode
  cases hmethM.symm.trans hmethM'
  obtain ⟨c2, r2, m2, q1, q2, q3, q4, kP, hkP, hkPi⟩ := Cond.selects_spec hsel
  cases hcls.symm.trans q1
  cases (State.methodFound?_of_named hnamed hy).symm.trans q2
  cases hnamed.symm.trans q3
  have hselP : selectMethod e.platform s.vm cellB.cls mk = .method mk := by rw [Launch.admits_selectMethod X.admits]; exact q4
  obtain ⟨vm₁, X₁, hstep₁⟩ := X.invokevirtual hexec hown hlink hnamed hmethM hstM hkP hkPi hy (a := b) (cell := cellB) hcell
    (fun z h => by rw [h] at hobj; cases hobj) hselP hmethM habM hkP hkPi (g := g) hg (argsL := argsL) (rest := rest) (hlen _ hsigM) hstack hdg
  have hdg' : decode c.code ({ g with stack := rest } : JFrame).pc = .ok (.invokevirtual index, 3) := hdg
  have hn := X₁.named hnamed
  generalize hU : T.setVm vm₁ = U at X₁ hstep₁ hn
  have hUT : U.heap = T.heap := by rw [← hU]; rfl
  obtain ⟨methY, cY, hmY, hcY, -, hlY, -, -, -, -⟩ := Cond.code_spec hn (hws _ hcw (Value.ref b :: argsL).toArray U X₁.warmed)
  obtain ⟨kY, hkY, -⟩ := className_of_methodNamed hn
  have hinitY : kY.init = .initialized := Cond.initialized_spec (findClass_of_methodNamed hn) hkY (hws _ hini (Value.ref b :: argsL).toArray U X₁.warmed)
  have h : At U ({ g with stack := rest } : JFrame).method c below := by show At U g.method c below; rw [hg]; exact X₁.here
  have happ : (headSpec ws rm).appliesLoose y e.platform (U.calling { g with stack := rest } mk (Value.ref b :: argsL).toArray) = true :=
    Spec.appliesLoose_calling (g := { g with stack := rest }) h hdg' hn hkY hinitY
      (X₁.room_calling (g := { g with stack := rest }) (R' := rm) hsize hmY hcY hframes (by rw [hlY]; show 2 * g.monitorRoom + (rest.map fun v => v.category).sum + (maxL + 11) + rm.locals ≤ R.locals; omega) (by rw [hrm.1]; exact hcs.1) (by rw [hrm.2]; exact hcs.2)) (atoms_intro fun w hw => hws w hw _ _ X₁.warmed)
  obtain ⟨mid, hmid⟩ := h.above
  have hfr : (U.setTop { g with stack := rest }).frames = (.java { g with stack := rest } :: mid) ++ below := by rw [State.frames_setTop' _ h.top, hmid]; rfl
  obtain ⟨o, s₂, hsteps, -, hend, hq⟩ := Steps.callFree hM p X₁.admits X₁.cas X₁.clock (acts := []) hfr happ (by rw [← hU]; exact hPc vm₁ _ mk (by rw [← hU] at X₁; exact X₁.warmed)) trivial
  rw [State.frames_setTop' _ h.top] at hend
  have hq9 : thQc z (U.calling { g with stack := rest } mk (Value.ref b :: argsL).toArray) o s₂ := hq
  obtain ⟨v, ce, rfl, hce, hst, hfc, hasg, hsz, hold, hW₂, e2, q2', q3', q4', q5', q6'⟩ := hq9
  have e3 : s₂ = ({ (U.calling { g with stack := rest } mk (Value.ref b :: argsL).toArray).setFrames s₂.frames with heap := s₂.heap, slotsUsed := s₂.slotsUsed } : State).setVm s₂.vm := by
    have : s₂ = ({ s₂ with vm := (U.calling { g with stack := rest } mk (Value.ref b :: argsL).toArray).vm } : State).setVm s₂.vm := rfl
    rw [e2] at this
    exact this
  have hf₂ : s₂.frames = .throwing v :: .java { g with stack := rest } :: U.frames.tail := hend
  have hW' : U.WarmedH s₂.vm := hW₂
  obtain ⟨g₀, hg0⟩ := Option.isSome_iff_exists.mp h.top
  obtain ⟨r, hr⟩ := State.topJava?_eq_some.mp hg0
  have hs₂ : s₂ = ((({ U with heap := s₂.heap, slotsUsed := s₂.slotsUsed } : State).setVm s₂.vm).setTop { g with stack := rest }).pushFrame (.throwing v) := by
    have hr' : (({ U with heap := s₂.heap, slotsUsed := s₂.slotsUsed } : State).setVm s₂.vm).frames = .java g₀ :: r := hr
    refine e3.trans ?_
    rw [hf₂, State.calling_eq h.top, State.setFrames_setFrames, State.pushFrame, State.frames_setTop _ hr', State.setTop_of_frames _ hr', State.setFrames_setFrames, hr]
    rfl
  have hsame : U.sameButNew ({ U with heap := s₂.heap, slotsUsed := s₂.slotsUsed } : State) [] 1 6 := by
    refine ⟨?_, q2', q3', q4', q5', q6'⟩
    obtain ⟨t, ht, -⟩ := State.frames_cons hr
    show ({ U with heap := s₂.heap, slotsUsed := s₂.slotsUsed } : State) = { U.setFrames U.frames with heap := s₂.heap, slotsUsed := s₂.slotsUsed }
    rw [State.setFrames_self ht]
  have hX' : Stand p l e R s m args below meth c (({ U with heap := s₂.heap, slotsUsed := s₂.slotsUsed } : State).setVm s₂.vm) (locs ++ []) (cells + 1) (slots + 6) :=
    ⟨X₁.admits, X₁.cas, X₁.clock, X₁.frames, X₁.room, X₁.hears, X₁.method, X₁.code, (X₁.here.setHeapUsed s₂.heap s₂.slotsUsed).setVm hW'.alike, X₁.tail, State.WarmedH.trans X₁.warmed hW', X₁.limits, X₁.bytes, X₁.same.trans (hsame.setVm s.vm)⟩
  rw [List.append_nil] at hX'
  have hal : s.vm.Alike U.vm := X₁.warmed.alike
  refine ⟨v, ce, _, hX', hce, hst, ?_, ?_, hsz, fun q hq => ?_, fun target ht => ?_⟩
  · have h1 : U.vm.findClass xN = some ce.cls := hfc
    rw [hal.findClass] at h1
    exact h1
  · have h1 : U.vm.assignable ce.cls ce.cls = true := hasg
    rw [hal.assignable] at h1
    exact h1
  · have h1 : s₂.heap[q]? = U.heap[q]? := hold q hq
    rw [← hUT]
    exact h1
  · refine hstep₁ _ fun acts => ?_
    rw [doInvoke_state]
    rw [← hs₂] at ht
    exact hsteps.trans ht
theorem th_find {e : Env} {s : State} {f : JFrame} {a : Addr} {meth : Method} {code : Code} (hm : s.vm.method? f.method = some meth) (hc : meth.code = some code) {x : ExceptionTableEntry} (htab : code.exceptionTable.toList = [x]) (hx : covers x f.pc = true) (h0 : x.catchType ≠ 0) {c : ClassId} {cell : Cell}
    (hl : s.vm.ClassLinks e.platform f.method.cls x.catchType c) (hcell : s.heap[a]? = some cell) (hobj : ∀ k, cell.vm ≠ .statics k) (hk : ∃ k, s.vm.classes[cell.cls]? = some k) (hcl : ∃ k, s.vm.classes[c]? = some k) (hfit : s.vm.assignable cell.cls c = true)
    (Q : Handler → Pre) (E : CtlPost) (d : Bool) (acts : List Action) : wp (findHandler f a) Q E e d acts s ↔ Q (.found x.handlerPc) d acts (s.setVm (s.vm.noted f.method.cls x.catchType (.cls c))) := by
  rw [_root_.Jvm.W.findHandler_eq hm hc, htab]
  simp only [covers] at hx
  obtain ⟨ha, ht⟩ := (resolveClass_links e.toSetting hl).op (op := VmOp.resolveClass f.method.cls x.catchType) rfl
  have hal : s.vm.Alike (s.vm.noted f.method.cls x.catchType (.cls c)) := (Vm.Alike.refl s.vm).noted _ _ _
  obtain ⟨k1, hk1⟩ := hk
  obtain ⟨k2, hk2⟩ := hcl
  obtain ⟨k1', hk1', -⟩ := hal.2.2 _ _ hk1
  obtain ⟨k2', hk2', -⟩ := hal.2.2 _ _ hk2
  have hfit' : (s.vm.noted f.method.cls x.catchType (.cls c)).assignable cell.cls c = true := by rw [hal.assignable]; exact hfit
  simp [findHandler.go, hx, h0, ha, ht, hcell, hobj, hk1', hk2', hfit', VmOp.dirties, VmOp.acts]
theorem th_catch (X : Stand p l e R s m args below meth c T locs cells slots) (a : Addr) {g : JFrame} (hg : g.method = m) {own name : String} (hown : s.vm.findClass own = some m.cls) {x : ExceptionTableEntry} (htab : c.exceptionTable.toList = [x]) (hx : covers x g.pc = true) (h0 : x.catchType ≠ 0)
    (hlink : (Cond.classLink own x.catchType name).before args s = true) {cell : Cell} (hcT : s.vm.findClass name = some cell.cls) (hcell : T.heap[a]? = some cell) (hobj : cell.vm.isStatics = false) (hfit : s.vm.assignable cell.cls cell.cls = true) :
    ∃ vm', Stand p l e R s m args below meth c (T.setVm vm') locs cells slots ∧ ∀ target, Steps p.tables e below ((T.setVm vm').setTop { g with pc := x.handlerPc, stack := [.ref a] }) target → Steps p.tables e below ((T.setTop g).pushFrame (.throwing a)) target := by
  have hpl : e.platform.magicAccessors = ({} : Platform).magicAccessors := by rw [X.admits.platform]
  obtain ⟨c', hc', hcl⟩ := Cond.classLink_spec hown hlink e.platform hpl
  cases hcT.symm.trans hc'
  obtain ⟨dk, _, _, kt, hd, _, _, _, _, hkt, _, hopen⟩ := hcl.here
  have hcl₀ := X.warmed.classLinks hcl
  have hW' : s.WarmedH (T.vm.noted m.cls x.catchType (.cls cell.cls)) := X.warmed.noted hd hopen (State.rightAt_cls hcl)
  have hal := X.warmed.alike
  obtain ⟨kt', hkt', -⟩ := hal.2.2 _ _ hkt
  have hfit' : T.vm.assignable cell.cls cell.cls = true := by rw [hal.assignable]; exact hfit
  refine ⟨_, X.noted hW', fun target hrest => ?_⟩
  subst hg
  obtain ⟨hgo, hw⟩ := X.here.throwing a
  refine Steps.head hgo hw ?_
  rw [stepThread_throwing (frames_entered X.here.top _)]
  have hfind : ∀ (Q : Handler → Pre) (E : CtlPost) (d : Bool) (acts : List Action), wp (findHandler g a) Q E e d acts ((T.setTop g).pushFrame (.throwing a)) ↔ Q (.found x.handlerPc) d acts (((T.setTop g).pushFrame (.throwing a)).setVm (T.vm.noted g.method.cls x.catchType (.cls cell.cls))) :=
    th_find (s := (T.setTop g).pushFrame (.throwing a)) (f := g) (a := a) (meth := meth) (code := c) X.method' X.code htab hx h0 hcl₀ hcell (VmData.ne_statics_of hobj) ⟨kt', hkt'⟩ ⟨kt', hkt'⟩ hfit'
  have hst : (stepThrowing e ((T.setTop g).pushFrame (.throwing a)) a (.java g :: T.frames.tail)).Is ((((T.setTop g).pushFrame (.throwing a)).setVm (T.vm.noted g.method.cls x.catchType (.cls cell.cls))).setFrames (.java { g with pc := x.handlerPc, stack := [.ref a] } :: T.frames.tail)) [] := by
    simp only [stepThrowing, searchFrame, vmDo]
    generalize hr : Sem.go _ e false [] ((T.setTop g).pushFrame (.throwing a)) = res
    obtain ⟨as, rfl, ha⟩ := Sem.eq_ok_of hr (a := Handler.found x.handlerPc) (s' := ((T.setTop g).pushFrame (.throwing a)).setVm (T.vm.noted g.method.cls x.catchType (.cls cell.cls))) (acts' := []) (by simp [hfind _ _ _ _])
    exact ⟨rfl, ha⟩
  rw [hst.1]
  obtain ⟨g₀, hg0⟩ := Option.isSome_iff_exists.mp X.here.top
  obtain ⟨r, hr⟩ := State.topJava?_eq_some.mp hg0
  have hr' : (T.setVm (T.vm.noted g.method.cls x.catchType (.cls cell.cls))).frames = .java g₀ :: r := hr
  rw [State.setTop_of_frames _ hr'] at hrest
  have e9 : ((((T.setTop g).pushFrame (.throwing a)).setVm (T.vm.noted g.method.cls x.catchType (.cls cell.cls))).setFrames (.java { g with pc := x.handlerPc, stack := [.ref a] } :: T.frames.tail)) = (T.setVm (T.vm.noted g.method.cls x.catchType (.cls cell.cls))).setFrames (.java { g with pc := x.handlerPc, stack := [.ref a] } :: r) := by
    rw [hr, List.tail_cons, State.pushFrame, State.setTop_of_frames _ hr]
    have h1 : ∀ (u : State) (F G : List Frame) (vm' : Vm), ((u.setFrames F).setVm vm').setFrames G = (u.setVm vm').setFrames G := fun u F G vm' => by
      have h1 : (u.setFrames F).setVm vm' = (u.setVm vm').setFrames F := rfl
      rw [h1, State.setFrames_setFrames]
    rw [h1, h1]
  rw [e9]
  exact hrest
end ThCall
section ThNode
variable {ρ : Type} {p : Program} {l : Launch} {e : Env} {R : Room} {s : State} {m : MethodId} {args : Array Value} {below : List Frame} {meth : Method} {c : Code} {D : va_G} {dA : Nat → ClassId} {A B : Nat → Prop} {cc : ByteArray} {nL : Nat} {own : String} {ret : Option FieldType} {rd : Prop} {Q : ρ → State → Prop} {k n : Nat} {h : Hp} {sz : Nat} {lv : List (Nat × Value)} {pc index : Nat} {st st0 : List Value} {o : Option ρ} {b : Nat} {As : List Value}
theorem vPe_blind {av : List Value} : FrameBlind (vPe B D dA av h sz) := fun a U g mk q => by
  obtain ⟨q0, q1, qP, qK, qN, qE⟩ := q
  exact ⟨q0, q1, qP, va_K.moved (u := U) (U := U.calling g mk a) (Vm.Alike.refl U.vm) qK, vNx_same rfl qN, qE.same rfl⟩
theorem vPe_at (C : vC p s m args meth c D dA A cc nL own ret) (hAB : ∀ q, A q → B q) (hEx : vEx B s s.heap) {H : Heap} {locs : List Loc} (hh : hI D dA A h H) (hz : H.size = sz) (hS : va_S A s.heap H locs) {av : List Value} : ∀ U : State, U.heap = H → s.WarmedH U.vm → vPe B D dA av h sz av.toArray U := fun U hU hW =>
  ⟨rfl, by rw [hU]; exact hz, by rw [hU]; exact hh.weaken (fun _ _ _ _ => trivial), va_K.moved hW.alike C.2.2.2.2.2.1, vNx_warm hW C.2.2.2.2.2.2.2.2.2, hEx.at hW (fun q hq hB => by rw [hU]; exact hS.2.1 q hq (fun hA => hB (hAB q hA)))⟩
/-- the class's node answers -/
theorem v_callE (C : vC p s m args meth c D dA A cc nL "AdaptiveTreesLaw" ret) (hAB : ∀ q, A q → B q) (hEx : vEx B s s.heap) {v : Int32} {ws : List Cond} {bytes : ByteArray} {maxL : Nat}
    (hM : Met l yA_node ws (vR 6 1 6) (vPe B D dA (.ref b :: As) h sz) (vQc True h sz D dA h sz (some (.int v))) 1 6 (vAr True h sz)) (hw : ws = Cond.code yA_node bytes maxL (some .int) :: gW) (hc : Cond.code yA_node bytes maxL (some .int) ∈ gW) (hini : Cond.initialized yA_node.cls ∈ gW)
    (hR : 7 ≤ R.frames ∧ 8 + (maxL + 11) + 240 ≤ R.locals) (hN : As.length = 4) (hstk : st0 = As.reverse ++ .ref b :: st) (hwd : (st.map fun v => v.category).sum ≤ 8) (hf : k + 1 ≤ R.cells ∧ n + 6 ≤ R.slots) (hlk : Cond.methodLink "AdaptiveTreesLaw" index yA_node ∈ gW) (him : Cond.instanceMethod yA_node ∈ gW) (hsl : Cond.selects yA_node.cls yA_node yA_node ∈ gW) {q : vw_C} (hcl : vwCl[4]? = some q) (hq : q.1 = yA_node.cls) (hO : isO h b 4 = true)
    (hd : decode cc pc = .ok (.invokevirtual index, 3)) (kk : vO p l e R s m args below meth c D dA A nL rd Q (k + 1) (n + 6) h sz lv (pc + 3) (.int v :: st) o) : vO p l e R s m args below meth c D dA A nL rd Q k n h sz lv pc st0 o := by
  intro r hr H locs ls hh hz hS hJ hl T hT X
  obtain ⟨fs, e0⟩ := isO_some hO
  have hrv := va_recv C.2.2.2.2.2.1 (hh.one e0) hcl (q0 := 0) rfl
  rw [hq] at hrv
  obtain ⟨v', st₀, t, T', L, g0, X', hL, e1, e2, ⟨hv, hP, hz1, hF, hsm⟩, stp⟩ := va_runV (C := yA_node.cls) (As := As) (rest := st) (g := F0 m pc ls st0) ⟨C.1, C.2.1, C.2.2.1, C.2.2.2.1, C.2.2.2.2.1⟩ hM ⟨callB_of 4 C.2.2.2.2.1 (good_ws hw hc) hw rfl rfl (C.2.2.2.2.1 _ hini) (C.2.2.2.2.1 _ hlk) (by decide +kernel) hR, C.2.2.2.2.1 _ him, C.2.2.2.2.1 _ hsl⟩ ⟨vPe_blind, hrv, vPe_at C hAB hEx hh hz hS⟩ rfl hN hl.1 hstk (lv_room hwd) hd hf T hT X
  cases hv
  have hH : T'.heap = H := by rw [e1, hsm trivial, g0]
  have hL0 : L = [] := List.eq_nil_iff_forall_not_mem.mpr (fun x hx => (hL x hx).1 trivial)
  subst hL0
  rw [List.append_nil] at X'
  obtain ⟨t2, a1, b1⟩ := kk r hr T'.heap locs ls (by rw [hH]; exact hh) (by rw [hH]; exact hz) (by rw [hH]; exact hS) (fun hq => ⟨by rw [hH]; exact (hJ hq).1, (hJ hq).2⟩) hl T' rfl X'
  exact ⟨t2, stp t2 a1, b1⟩
/-- the class's node throws, and it is caught at 17 -/
theorem v_callT (C : vC p s m args meth c D dA A cc nL "AdaptiveTreesLaw" ret) (hAB : ∀ q, A q → B q) (hEx : vEx B s s.heap) {ws : List Cond} {bytes : ByteArray} {maxL : Nat}
    (hM : MetFree l yA_node (headSpec ws (vR 6 1 6)) (vPe B D dA (.ref b :: As) h sz) (fun _ _ _ _ _ => True) (fun _ st o t => thQc sz st o t)) (hw : ws = Cond.code yA_node bytes maxL (some .int) :: gW) (hc : Cond.code yA_node bytes maxL (some .int) ∈ gW) (hini : Cond.initialized yA_node.cls ∈ gW)
    (hR : 7 ≤ R.frames ∧ 8 + (maxL + 11) + 240 ≤ R.locals) (hN : ∀ sig, parseMethodDescriptor yA_node.desc = some sig → As.length = sig.parameters.length) (hstk : st0 = As.reverse ++ .ref b :: st) (hwd : (st.map fun v => v.category).sum ≤ 8) (hf : k + 1 ≤ R.cells ∧ n + 6 ≤ R.slots) (hlk : Cond.methodLink "AdaptiveTreesLaw" index yA_node ∈ gW) (him : Cond.instanceMethod yA_node ∈ gW) (hsl : Cond.selects yA_node.cls yA_node yA_node ∈ gW) {q : vw_C} (hcl : vwCl[4]? = some q) (hq : q.1 = yA_node.cls) (hO : isO h b 4 = true)
    {x : ExceptionTableEntry} (htab : c.exceptionTable.toList = [x]) (hx : covers x pc = true) (hx3 : x.handlerPc = 17) (hx4 : x.catchType = 13) (hcx : Cond.classLink "AdaptiveTreesLaw" 13 xN ∈ gW)
    (hd : decode cc pc = .ok (.invokevirtual index, 3)) (kk : ∀ y, vO p l e R s m args below meth c D dA A nL False Q (k + 1) (n + 6) h (sz + 1) lv 17 [.ref y] o) : vO p l e R s m args below meth c D dA A nL False Q k n h sz lv pc st0 o := by
  intro r hr H locs ls hh hz hS hJ hl T hT X
  obtain ⟨fs, e0⟩ := isO_some hO
  have hrv := va_recv C.2.2.2.2.2.1 (hh.one e0) hcl (q0 := 0) rfl
  rw [hq] at hrv
  obtain ⟨cellB, hcB, hoB, hclB⟩ := hrv
  have hts := C.2.2.2.2.1
  have hws : ∀ w ∈ ws, ∀ (a' : Array Value) (U : State), s.WarmedH U.vm → w.before a' U = true := pay_in hts (good_ws hw hc)
  obtain ⟨y, ce, T', X', hce, hst, hfc, hasg, hsz, hold, stp⟩ := th_call X C.1 (own := "AdaptiveTreesLaw") (index := index) (z := sz) (y := yA_node) (bytes := bytes) (maxL := maxL) (ret := some .int) (ws := ws) (rm := vR 6 1 6) C.2.2.2.1 (hts _ hlk) (hts _ him) (hts _ hsl) (by rw [hw]; exact List.mem_cons_self) (by rw [hw]; exact List.mem_cons_of_mem _ hini) (by decide +kernel) hM hws ⟨rfl, rfl⟩ hR.1 hR.2 hf
    (by rw [hT]; exact hcB) hoB hclB (g := F0 m pc ls st0) rfl (by rw [C.2.2.1]; exact hl.1) (argsL := As) (rest := st) hN hstk (lv_room hwd) (by rw [C.2.1]; exact hd) (fun vm₁ g' mk hW => vPe_blind _ _ g' mk (vPe_at C hAB hEx hh hz hS _ hT hW))
  obtain ⟨vm', X2, stc⟩ := th_catch X' y (g := { F0 m pc ls st0 with stack := st }) rfl (own := "AdaptiveTreesLaw") (name := xN) C.2.2.2.1 htab hx (by rw [hx4]; decide) (by rw [hx4]; exact hts _ hcx) hfc hce hst hasg
  have hH1 : ∀ q : Nat, q < sz → T'.heap[q]? = H[q]? := fun q hq => by rw [hold q hq, hT]
  have hI' : hI D dA A h T'.heap := fun a' x' e' => ⟨(hh a' x' e').1.kept (hH1 a' (by rw [← hz]; exact (hh a' x' e').1.lt)), (hh a' x' e').2⟩
  obtain ⟨t2, a1, b1⟩ := kk y r hr T'.heap locs ls hI' hsz ⟨by rw [hsz, ← hz]; exact Nat.le_succ_of_le hS.1, fun q h1 h2 => by rw [hH1 q (by rw [← hz]; exact Nat.lt_of_lt_of_le h1 hS.1)]; exact hS.2.1 q h1 h2, hS.2.2⟩ (fun f => f.elim) hl (T'.setVm vm') rfl X2
  refine ⟨t2, stp t2 (stc t2 ?_), b1⟩
  rw [hx3]
  exact a1
end ThNode
/-- the law's 'node': what the class's 'node' answers goes into the long array, or it throws and one cell is made -/
def FL_node (h : Hp) (z a : Nat) (p0 p1 p2 p3 : Int32) (oo : Nat) : Option (Hp × Nat × Int32) := gd (isO h a 4 = true) ((FA_node h a p0 p1 p2 p3).bind (fun q => match q with
  | some v => stL h oo 2 0 v.toInt64 (fun h1 => some (h1, z, 0))
  | none => some (h, z + 1, 1)))
def yL_node : MethodName := ⟨"AdaptiveTreesLaw", "node", "(LAdaptiveTrees;IIII[J)I"⟩
theorem wl_524 : (Jvm.Cond.methodLink "AdaptiveTreesLaw" (7 : Nat) yA_node) ∈ gW := List.mem_filter.mpr ⟨List.mem_append_right _ (List.mem_append_right _ (List.mem_append_left _ (List.mem_of_getElem? (i := 238) rfl))), rfl⟩
theorem wl_525 : (Jvm.Cond.instanceMethod yA_node) ∈ gW := List.mem_filter.mpr ⟨List.mem_append_right _ (List.mem_append_right _ (List.mem_append_left _ (List.mem_of_getElem? (i := 239) rfl))), rfl⟩
theorem wl_527 : (Jvm.Cond.code yA_node prog_1_method_17_code (6 : Nat) (Option.some Jvm.ClassFile.FieldType.int)) ∈ gW := List.mem_filter.mpr ⟨List.mem_append_right _ (List.mem_append_right _ (List.mem_append_right _ (List.mem_append_left _ (List.mem_of_getElem? (i := 1) rfl)))), rfl⟩
theorem wl_47 : (Jvm.Cond.initialized "AdaptiveTrees") ∈ gW := List.mem_filter.mpr ⟨List.mem_append_right _ (List.mem_append_left _ (List.mem_of_getElem? (i := 1) rfl)), rfl⟩
theorem wl_523 : (Jvm.Cond.classLink "AdaptiveTreesLaw" (13 : Nat) "java/lang/IndexOutOfBoundsException") ∈ gW := List.mem_filter.mpr ⟨List.mem_append_right _ (List.mem_append_right _ (List.mem_append_left _ (List.mem_of_getElem? (i := 237) rfl))), rfl⟩
theorem wl_526 : (Jvm.Cond.selects "AdaptiveTrees" yA_node yA_node) ∈ gW := List.mem_filter.mpr ⟨List.mem_append_right _ (List.mem_append_right _ (List.mem_append_right _ (List.mem_append_left _ (List.mem_of_getElem? (i := 0) rfl)))), rfl⟩
theorem wl_522 : (Jvm.Cond.codeWith yL_node method_3_code (7 : Nat) (Option.some Jvm.ClassFile.FieldType.int) [((0 : Nat), (14 : Nat), (17 : Nat), (13 : Nat))]) ∈ gW := List.mem_filter.mpr ⟨List.mem_append_right _ (List.mem_append_right _ (List.mem_append_left _ (List.mem_of_getElem? (i := 236) rfl))), rfl⟩
theorem wl_520 : (Jvm.Cond.methodLink "AdaptiveTreesLaw" (92 : Nat) yL_node) ∈ gW := List.mem_filter.mpr ⟨List.mem_append_right _ (List.mem_append_right _ (List.mem_append_left _ (List.mem_of_getElem? (i := 234) rfl))), rfl⟩
theorem wl_521 : (Jvm.Cond.static yL_node) ∈ gW := List.mem_filter.mpr ⟨List.mem_append_right _ (List.mem_append_right _ (List.mem_append_left _ (List.mem_of_getElem? (i := 235) rfl))), rfl⟩
theorem wl_46 : (Jvm.Cond.initialized "AdaptiveTreesLaw") ∈ gW := List.mem_filter.mpr ⟨List.mem_append_right _ (List.mem_append_left _ (List.mem_of_getElem? (i := 0) rfl)), rfl⟩
theorem dL_node_0 : decode method_3_code 0 = .ok (.aload 5, 2) := by decide +kernel
theorem dL_node_2 : decode method_3_code 2 = .ok (.iconst 0, 1) := by decide +kernel
theorem dL_node_3 : decode method_3_code 3 = .ok (.aload_n 0, 1) := by decide +kernel
theorem dL_node_4 : decode method_3_code 4 = .ok (.iload_n 1, 1) := by decide +kernel
theorem dL_node_5 : decode method_3_code 5 = .ok (.iload_n 2, 1) := by decide +kernel
theorem dL_node_6 : decode method_3_code 6 = .ok (.iload_n 3, 1) := by decide +kernel
theorem dL_node_7 : decode method_3_code 7 = .ok (.iload 4, 2) := by decide +kernel
theorem dL_node_9 : decode method_3_code 9 = .ok (.invokevirtual 7, 3) := by decide +kernel
theorem dL_node_12 : decode method_3_code 12 = .ok (.i2l, 1) := by decide +kernel
theorem dL_node_13 : decode method_3_code 13 = .ok (.lastore, 1) := by decide +kernel
theorem dL_node_14 : decode method_3_code 14 = .ok (.goto 7, 3) := by decide +kernel
theorem dL_node_17 : decode method_3_code 17 = .ok (.astore 6, 2) := by decide +kernel
theorem dL_node_19 : decode method_3_code 19 = .ok (.iconst 1, 1) := by decide +kernel
theorem dL_node_20 : decode method_3_code 20 = .ok (.ireturn, 1) := by decide +kernel
theorem dL_node_21 : decode method_3_code 21 = .ok (.iconst 0, 1) := by decide +kernel
theorem dL_node_22 : decode method_3_code 22 = .ok (.ireturn, 1) := by decide +kernel
set_option maxRecDepth 100000 in
set_option maxHeartbeats 4000000 in
/-- the law's node, its exception caught -/
theorem mL_node (l : Launch) (hfl : l.flags = flags0) (B : Nat → Prop) (D : va_G) (dA : Nat → ClassId) (h : Hp) (z a : Nat) (p0 p1 p2 p3 : Int32) (oo : Nat) (r : Hp × Nat × Int32) (hr : FL_node h z a p0 p1 p2 p3 oo = some r) (hAB : ∀ q, vA h z q → B q) : Met l yL_node (Cond.codeWith yL_node method_3_code 7 (some .int) [(0, 14, 17, 13)] :: gW) (vR 7 1 6) (vPe B D dA [.ref a, .int p0, .int p1, .int p2, .int p3, .ref oo] h z) (vQc False h z D dA r.1 r.2.1 (some (.int r.2.2))) 1 6 (vAr False h z) := by
  refine va_MetW (cc := method_3_code) (maxL := 7) (ret := some .int) (hh := [(0, 14, 17, 13)]) (by decide) rfl ?_
  intro p e s m args below meth c s₁ Bd hml hv
  obtain ⟨rfl, hsz, hP, hK, hN, hEx⟩ := hv
  have hat := atoms_spec (ws := Cond.codeWith yL_node method_3_code 7 (some .int) [(0, 14, 17, 13)] :: gW) Bd.pre
  have C : vC p s m ([.ref a, .int p0, .int p1, .int p2, .int p3, .ref oo] : List Value).toArray meth c D dA (vA h z) method_3_code 7 "AdaptiveTreesLaw" (some .int) := ⟨Bd.exec, Bd.bytes, hml, findClass_of_methodNamed Bd.named, fun w hw' => hat w (List.mem_cons_of_mem _ hw'), hK, fun q hq => Or.inr (by rw [← hsz]; exact hq), Bd.notSynchronized, Bd.returns, hN⟩
  obtain ⟨m9, meth9, c9, hn9, hm9, hc9, -, -, ht9, -⟩ := Cond.codeWith_spec (hat _ List.mem_cons_self)
  cases Bd.named.symm.trans hn9
  cases Bd.method.symm.trans hm9
  cases (Stand.of_body Bd).code.symm.trans hc9
  obtain ⟨x, htab, hx1, hx2, hx3, hx4⟩ : ∃ x : ExceptionTableEntry, c.exceptionTable.toList = [x] ∧ x.startPc = 0 ∧ x.endPc = 14 ∧ x.handlerPc = 17 ∧ x.catchType = 13 := by
    generalize c.exceptionTable.toList = tl at ht9
    match tl, ht9 with
    | [], ht9 => simp at ht9
    | [x], ht9 =>
      simp only [List.map_cons, List.map_nil, List.cons.injEq, Prod.mk.injEq, and_true] at ht9
      exact ⟨x, rfl, ht9.1, ht9.2.1, ht9.2.2.1, ht9.2.2.2⟩
    | _ :: _ :: _, ht9 => simp at ht9
  have hcov : covers x 9 = true := by simp [covers, hx1, hx2]
  have hO9 : vO p l e (vR 7 1 6) s m ([.ref a, .int p0, .int p1, .int p2, .int p3, .ref oo] : List Value).toArray below meth c D dA (vA h z) 7 False (fun r : Hp × Nat × Int32 => MQ below (vQc False h z D dA r.1 r.2.1 (some (.int r.2.2))) ([.ref a, .int p0, .int p1, .int p2, .int p3, .ref oo] : List Value).toArray s 1 6 (vAr False h z)) 0 0 h z [(0, .ref a), (1, .int p0), (2, .int p1), (3, .int p2), (4, .int p3), (5, .ref oo)] 0 [] (FL_node h z a p0 p1 p2 p3 oo) := by
    obtain ⟨Q, hQ⟩ : ∃ Q : Hp × Nat × Int32 → State → Prop, Q = (fun r : Hp × Nat × Int32 => MQ below (vQc False h z D dA r.1 r.2.1 (some (.int r.2.2))) ([.ref a, .int p0, .int p1, .int p2, .int p3, .ref oo] : List Value).toArray s 1 6 (vAr False h z)) := ⟨_, rfl⟩
    rw [← hQ]
    unfold FL_node
    refine v_gd fun hO => ?_
    refine v_bind fun q hq => ?_
    refine v_aload C dL_node_0 5 rfl ?_
    refine v_iconst (v := 0) C dL_node_2 (by decide) ?_
    refine v_aload_n C dL_node_3 rfl 0 rfl ?_
    refine v_iload_n C dL_node_4 rfl 1 rfl ?_
    refine v_iload_n C dL_node_5 rfl 2 rfl ?_
    refine v_iload_n C dL_node_6 rfl 3 rfl ?_
    refine v_iload C dL_node_7 4 rfl ?_
    have hnode := mA_node l hfl B D dA h z a p0 p1 p2 p3 q hq
    cases q with
    | some v =>
      refine v_callE (As := [.int p0, .int p1, .int p2, .int p3]) (st := [.int 0, .ref oo]) (B := B) (v := v) (bytes := prog_1_method_17_code) (maxL := 6) C hAB hEx hnode rfl wl_527 wl_47 ⟨Nat.le_of_ble_eq_true rfl, Nat.le_of_ble_eq_true rfl⟩ rfl rfl (Nat.le_of_ble_eq_true rfl) ⟨Nat.le_of_ble_eq_true rfl, Nat.le_of_ble_eq_true rfl⟩ wl_524 wl_525 wl_526 v_cl4 rfl hO dL_node_9 ?_
      refine v_i2l C dL_node_12 ?_
      refine v_last C rfl dL_node_13 (fun h1 => ?_)
      refine v_goto (tgt := 21) C dL_node_14 (by decide) ?_
      refine v_iconst (v := 0) C dL_node_21 (by decide) ?_
      exact v_iretW (mc := 1) (ms := 6) C dL_node_22 ⟨Nat.le_of_ble_eq_true rfl, Nat.le_of_ble_eq_true rfl⟩ (by rw [hQ])
    | none =>
      refine v_callT (As := [.int p0, .int p1, .int p2, .int p3]) (st := [.int 0, .ref oo]) (B := B) (bytes := prog_1_method_17_code) (maxL := 6) C hAB hEx hnode rfl wl_527 wl_47 ⟨Nat.le_of_ble_eq_true rfl, Nat.le_of_ble_eq_true rfl⟩ (fun sig hs => ?_) rfl (Nat.le_of_ble_eq_true rfl) ⟨Nat.le_of_ble_eq_true rfl, Nat.le_of_ble_eq_true rfl⟩ wl_524 wl_525 wl_526 v_cl4 rfl hO htab hcov hx3 hx4 wl_523 dL_node_9 (fun y => ?_)
      · have h9 : (parseMethodDescriptor yA_node.desc).map (fun d => d.parameters.length) = some 4 := by decide +kernel
        rw [hs] at h9
        exact (Option.some.inj h9).symm
      · refine v_astore (lv' := []) C dL_node_17 (by decide) [] rfl ?_
        refine v_iconst (v := 1) C dL_node_19 (by decide) ?_
        exact v_iretW (mc := 1) (ms := 6) C dL_node_20 ⟨Nat.le_of_ble_eq_true rfl, Nat.le_of_ble_eq_true rfl⟩ (by rw [hQ])
  have hb := hO9 r hr s.heap [] _ (hP.self z) hsz va_S.rf (fun f => f.elim) (lv_entry ([.ref a, .int p0, .int p1, .int p2, .int p3, .ref oo]) (n := 7) (Nat.le_of_ble_eq_true rfl))
  rw [lg_entry_eq]
  exact hb
section ThLaw
variable {ρ : Type} {p : Program} {l : Launch} {e : Env} {R : Room} {s : State} {m : MethodId} {args : Array Value} {below : List Frame} {meth : Method} {c : Code} {D : va_G} {dA : Nat → ClassId} {A B : Nat → Prop} {cc : ByteArray} {nL : Nat} {ret : Option FieldType} {Q : ρ → State → Prop} {k n : Nat} {h : Hp} {sz : Nat} {lv : List (Nat × Value)} {pc : Nat} {st : List Value} {o : Option ρ}
set_option maxHeartbeats 2000000 in
/-- the law calls its node -/
theorem v_lnode (C : vC p s m args meth c D dA A cc nL "AdaptiveTreesLaw" ret) (hfl : l.flags = flags0) (hAB : ∀ q, A q → B q) (hEx : vEx B s s.heap) {a oo index : Nat} {p0 p1 p2 p3 : Int32} {r : Hp × Nat × Int32} (hr : FL_node h sz a p0 p1 p2 p3 oo = some r) (hlk : Cond.methodLink "AdaptiveTreesLaw" index yL_node ∈ gW) (hR : 8 ≤ R.frames ∧ 8 + (7 + 11) + 40 * 7 ≤ R.locals) (hwd : (st.map fun v => v.category).sum ≤ 8) (hf : k + 1 ≤ R.cells ∧ n + 6 ≤ R.slots) (hd : decode cc pc = .ok (.invokestatic index, 3))
    (kk : vO p l e R s m args below meth c D dA A nL False Q (k + 1) (n + 6) r.1 r.2.1 lv (pc + 3) (.int r.2.2 :: st) o) : vO p l e R s m args below meth c D dA A nL False Q k n h sz lv pc (.ref oo :: .int p3 :: .int p2 :: .int p1 :: .int p0 :: .ref a :: st) o := by
  intro x hx H locs ls hh hz hS hJ hl T hT X
  have hts := C.2.2.2.2.1
  have hAA : ∀ q, vA h sz q → A q := fun q hq => by
    rcases hq with ⟨y, hy⟩ | hq
    · exact (hh q y hy).2
    · exact C.2.2.2.2.2.2.1 q (Nat.le_trans hS.1 (by rw [hz]; exact hq))
  have hM := mL_node l hfl B D dA h sz a p0 p1 p2 p3 oo r hr (fun q hq => hAB q (hAA q hq))
  have hcd : Cond.codeWith yL_node method_3_code 7 (some .int) [(0, 14, 17, 13)] ∈ gW := wl_522
  have hws : ∀ w ∈ (Cond.codeWith yL_node method_3_code 7 (some .int) [(0, 14, 17, 13)] :: gW), ∀ (a' : Array Value) (U : State), s.WarmedH U.vm → w.before a' U = true := by
    refine pay_in hts (fun w hw => ?_)
    rcases List.mem_cons.mp hw with rfl | hw
    · exact ⟨hcd, good_of_word (List.mem_filter.mp hcd).2⟩
    · exact ⟨hw, good_of_word (List.mem_filter.mp hw).2⟩
  have hK : Back l R p e below s args yL_node 3 8 (PreOf R 1 6 (vPe B D dA [.ref a, .int p0, .int p1, .int p2, .int p3, .ref oo] h sz)) (PostOf (vQc False h sz D dA r.1 r.2.1 (some (.int r.2.2))) 1 6 (vAr False h sz)) :=
    va_backW (bytes := method_3_code) (maxL := 7) (ret := some .int) (hh := [(0, 14, 17, 13)]) hM vPe_blind rfl rfl hR.1 hR.2 hws List.mem_cons_self (fun a' U hW => hws _ (List.mem_cons_of_mem _ wl_46) a' U hW)
  obtain ⟨mk, methM, cM, hnamed, hmethM, -, -, -, -, -, -, hsigM⟩ := Cond.codeWith_spec (hts _ hcd)
  have hstatic : methM.isStatic = true := Cond.static_spec hnamed hmethM (hts _ wl_521)
  obtain ⟨kP, hkP, -⟩ := className_of_methodNamed hnamed
  have hinitP : kP.init = .initialized := Cond.initialized_spec (findClass_of_methodNamed hnamed) hkP (hts _ wl_46)
  have hlen : ([.ref a, .int p0, .int p1, .int p2, .int p3, .ref oo] : List Value).length = methM.sig.parameters.length := by
    have h9 : (parseMethodDescriptor yL_node.desc).map (fun d => d.parameters.length) = some 6 := by decide +kernel
    rw [hsigM] at h9
    exact (Option.some.inj h9).symm
  obtain ⟨vm₁, X₁, hstep₁⟩ := X.invokestatic C.1 C.2.2.2.1 (hts _ hlk) hnamed hmethM hstatic hkP hinitP (by decide +kernel) (g := F0 m pc ls (.ref oo :: .int p3 :: .int p2 :: .int p1 :: .int p0 :: .ref a :: st)) rfl (argsL := [.ref a, .int p0, .int p1, .int p2, .int p3, .ref oo]) (rest := st) hlen rfl (by rw [C.2.1]; exact hd)
  obtain ⟨v, Bp, X', hpost, hsteps⟩ := hK m meth c ⟨T.setVm vm₁, locs, k, n⟩ { F0 m pc ls (.ref oo :: .int p3 :: .int p2 :: .int p1 :: .int p0 :: .ref a :: st) with stack := st } (.invokestatic index) mk ([.ref a, .int p0, .int p1, .int p2, .int p3, .ref oo] : List Value).toArray X₁ rfl (by rw [C.2.2.1]; exact hl.1) (by rw [C.2.1]; exact hd) (lv_room hwd) (X₁.named hnamed) ⟨hf.1, hf.2, vPe_at C hAB hEx hh hz hS (T.setVm vm₁) hT X₁.warmed⟩
  obtain ⟨g', mk', t, L, e1, e2, ⟨hv, hP, hz1, hF, -⟩, e3, hL, e4, e5⟩ := hpost
  obtain ⟨U', l2, c2, s2⟩ := Bp
  dsimp only [Pt.U, Pt.locs, Pt.cells, Pt.slots] at X' e1 e2 e3 e4 e5 hsteps
  subst e3
  subst e4
  subst e5
  cases hv
  obtain ⟨z1, k1⟩ := hF
  have g0 : ((T.setVm vm₁).calling g' mk' ([.ref a, .int p0, .int p1, .int p2, .int p3, .ref oo] : List Value).toArray).heap = H := hT
  rw [g0] at z1 k1
  obtain ⟨t2, a1, b1⟩ := kk x hx U'.heap (locs ++ L) ls (by rw [e1]; exact hP.weaken (fun q _ _ hq => hAA q hq)) (by rw [e1]; exact hz1)
    ⟨Nat.le_trans hS.1 (by rw [e1]; exact z1), fun q h1 h2 => by
      rw [e1, k1 q (Nat.lt_of_lt_of_le h1 hS.1) (fun z => h2 (hAA q z))]
      exact hS.2.1 q h1 h2, fun q hq => by
      rcases List.mem_append.mp hq with h | h
      · exact hS.2.2 q h
      · exact hAA _ (hL q h).2⟩ (fun f => f.elim) hl U' rfl X'
  exact ⟨t2, hstep₁ _ (fun acts => by rw [doInvoke_state]; exact hsteps.trans a1), b1⟩
end ThLaw
