
/-! THE V LAYER. A heap is a function from addresses to cells without the launch's numbers; 'vO .. o' says: if the functional text o of what is left answers some r, the machine comes to r. -/
abbrev xE : Type := (Nat × vp_A) ⊕ (Nat × List Value)
abbrev Hp : Type := Nat → Option xE
def xe (dA : Nat → ClassId) (x : xE) : va_E := match x with
  | .inl a => .inl (dA a.1, a.2)
  | .inr o => .inr o
def hI (D : va_G) (dA : Nat → ClassId) (A : Nat → Prop) (h : Hp) (H : Heap) : Prop := ∀ (a : Nat) (x : xE), h a = some x → va_at D vwCl (a, xe dA x) H ∧ A a
theorem hI.one {D : va_G} {dA : Nat → ClassId} {A : Nat → Prop} {h : Hp} {H : Heap} (hh : hI D dA A h H) {a : Nat} {x : xE} (e : h a = some x) : va_P D vwCl [(a, xe dA x)] H := by
  intro k q hk
  match k, hk with
  | 0, hk => cases hk; exact (hh a x e).1
  | k + 1, hk => simp at hk
theorem hI.set {D : va_G} {dA : Nat → ClassId} {A : Nat → Prop} {h : Hp} {H H1 : Heap} (hh : hI D dA A h H) {a : Nat} {x0 x : xE} (e : h a = some x0) (he : va_at D vwCl (a, xe dA x) H1) (oq : ∀ q : Nat, q ≠ a → H1[q]? = H[q]?) : hI D dA A (va_up h a (some x)) H1 := by
  intro b y hb
  by_cases hab : b = a
  · subst hab
    rw [va_up_self] at hb
    cases hb
    exact ⟨he, (hh b x0 e).2⟩
  · rw [va_up_ne _ _ hab] at hb
    exact ⟨(hh b y hb).1.kept (oq b hab), (hh b y hb).2⟩
theorem hI.push {D : va_G} {dA : Nat → ClassId} {A : Nat → Prop} {h : Hp} {H H1 : Heap} (hh : hI D dA A h H) {a : Nat} {x : xE} (ha : a = H.size) (hA : A a) (he : va_at D vwCl (a, xe dA x) H1) (oq : ∀ q : Nat, q < a → H1[q]? = H[q]?) : hI D dA A (va_up h a (some x)) H1 := by
  intro b y hb
  by_cases hab : b = a
  · subst hab
    rw [va_up_self] at hb
    cases hb
    exact ⟨he, hA⟩
  · rw [va_up_ne _ _ hab] at hb
    have hl : b < a := by rw [ha]; exact (hh b y hb).1.lt
    exact ⟨(hh b y hb).1.kept (oq b hl), (hh b y hb).2⟩
theorem hI.weaken {D : va_G} {dA : Nat → ClassId} {A B : Nat → Prop} {h : Hp} {H : Heap} (hh : hI D dA A h H) (hAB : ∀ (a : Nat) (x : xE), h a = some x → A a → B a) : hI D dA B h H := fun a x e => ⟨(hh a x e).1, hAB a x e (hh a x e).2⟩
/-- what a method may change: the cells that it is given, and new ones -/
def vA (h : Hp) (sz : Nat) : Nat → Prop := fun q => (∃ x, h q = some x) ∨ sz ≤ q
theorem hI.self {D : va_G} {dA : Nat → ClassId} {A : Nat → Prop} {h : Hp} {H : Heap} (sz : Nat) (hh : hI D dA A h H) : hI D dA (vA h sz) h H := fun a x e => ⟨(hh a x e).1, Or.inl ⟨x, e⟩⟩
/-- the field of an object -/
def gF (h : Hp) (a ci k : Nat) : Option Value := match h a with
  | some (.inr o) => if o.1 = ci then o.2[k]? else none
  | _ => none
def gI {β : Type} (h : Hp) (a ci k : Nat) (K : Int32 → Option β) : Option β := match gF h a ci k with
  | some (.int x) => K x
  | _ => none
def gR {β : Type} (h : Hp) (a ci k : Nat) (K : Nat → Option β) : Option β := match gF h a ci k with
  | some (.ref q) => K q
  | _ => none
/-- a field is written -/
def pF {β : Type} (h : Hp) (a ci k : Nat) (v : Value) (K : Hp → Option β) : Option β := match h a with
  | some (.inr o) => if o.1 = ci ∧ k < o.2.length then K (va_up h a (some (.inr (ci, o.2.set k v)))) else none
  | _ => none
/-- arrays of ints and booleans: ti is the number of the array's type -/
def gA (h : Hp) (a ti : Nat) : Option (Nat × (Nat → Int32)) := match h a with
  | some (.inl x) => if x.1 = ti then (match x.2 with | (n, .inl f) => some (n, f) | _ => none) else none
  | _ => none
def gQ (h : Hp) (a ti : Nat) : Option (Nat × (Nat → Option Nat)) := match h a with
  | some (.inl x) => if x.1 = ti then (match x.2 with | (n, .inr (.inr (.inr (.inr f)))) => some (n, f) | _ => none) else none
  | _ => none
def gL (h : Hp) (a ti : Nat) : Option (Nat × (Nat → Int64)) := match h a with
  | some (.inl x) => if x.1 = ti then (match x.2 with | (n, .inr (.inl f)) => some (n, f) | _ => none) else none
  | _ => none
def ldI {β : Type} (h : Hp) (a ti : Nat) (i : Int32) (K : Int32 → Option β) : Option β := match gA h a ti with
  | some x => if 0 ≤ i.toInt ∧ i.toInt < x.1 then K (x.2 i.toNatClampNeg) else none
  | none => none
def stI {β : Type} (h : Hp) (a ti : Nat) (i v : Int32) (K : Hp → Option β) : Option β := match gA h a ti with
  | some x => if 0 ≤ i.toInt ∧ i.toInt < x.1 then K (va_up h a (some (.inl (ti, x.1, .inl (upd x.2 i.toNatClampNeg v))))) else none
  | none => none
def ldQ {β : Type} (h : Hp) (a ti : Nat) (i : Int32) (K : Nat → Option β) : Option β := match gQ h a ti with
  | some x => if 0 ≤ i.toInt ∧ i.toInt < x.1 then (match x.2 i.toNatClampNeg with | some q => K q | none => none) else none
  | none => none
def isO (h : Hp) (v ci : Nat) : Bool := match h v with
  | some (.inr o) => decide (o.1 = ci)
  | _ => false
def stQ {β : Type} (h : Hp) (a ti : Nat) (i : Int32) (ci v : Nat) (K : Hp → Option β) : Option β := match gQ h a ti with
  | some x => if (0 ≤ i.toInt ∧ i.toInt < x.1) ∧ isO h v ci = true then K (va_up h a (some (.inl (ti, x.1, .inr (.inr (.inr (.inr (va_up x.2 i.toNatClampNeg (some v))))))))) else none
  | none => none

def alen {β : Type} (h : Hp) (a ti : Nat) (K : Int32 → Option β) : Option β := match h a with
  | some (.inl x) => if x.1 = ti then K (Int32.ofNat x.2.1) else none
  | _ => none
def ldL {β : Type} (h : Hp) (a ti : Nat) (i : Int32) (K : Int64 → Option β) : Option β := match gL h a ti with
  | some x => if 0 ≤ i.toInt ∧ i.toInt < x.1 then K (x.2 i.toNatClampNeg) else none
  | none => none
def stL {β : Type} (h : Hp) (a ti : Nat) (i : Int32) (v : Int64) (K : Hp → Option β) : Option β := match gL h a ti with
  | some x => if 0 ≤ i.toInt ∧ i.toInt < x.1 then K (va_up h a (some (.inl (ti, x.1, .inr (.inl (vp_updL x.2 i.toNatClampNeg v)))))) else none
  | none => none
/-- System.arraycopy over arrays of ints -/
def cpI {β : Type} (h : Hp) (a ti : Nat) (sp : Int32) (b : Nat) (dp n : Int32) (K : Hp → Option β) : Option β := match gA h a ti, gA h b ti with
  | some x, some y => if ((0 ≤ sp.toInt ∧ 0 ≤ dp.toInt) ∧ 0 ≤ n.toInt) ∧ (sp.toInt + n.toInt ≤ x.1 ∧ dp.toInt + n.toInt ≤ y.1) then K (va_up h b (some (.inl (ti, y.1, .inl (va_cpy x.2 y.2 sp.toNatClampNeg dp.toNatClampNeg n.toNatClampNeg))))) else none
  | _, _ => none
/-- a join: J is the text of what two roads share -/
def jn {X Y : Type} (J : X) (B : X → Y) : Y := B J
/-- a loop: B is its text with a hole for the next turn; bot answers nothing -/
def lpG {X : Type} (bot : X) : Nat → (X → X) → X
  | 0, _ => bot
  | n + 1, B => B (lpG bot n B)
theorem lpG_ind {X : Type} {bot : X} {B : X → X} (P : X → Prop) (h0 : P bot) (hs : ∀ r, P r → P (B r)) : ∀ n, P (lpG bot n B)
  | 0 => h0
  | n + 1 => hs _ (lpG_ind P h0 hs n)
/-- a guard -/
def gd {β : Type} (c : Prop) [Decidable c] (o : Option β) : Option β := if c then o else none
/-- what holds of a method's whole run -/
def vC (p : Program) (s : State) (m : MethodId) (args : Array Value) (meth : Method) (c : Code) (D : va_G) (dA : Nat → ClassId) (A : Nat → Prop) (cc : ByteArray) (nL : Nat) (own : String) (ret : Option FieldType) : Prop :=
  p.tables.exec = Jvm.exec ∧ c.code = cc ∧ c.maxLocals = nL ∧ s.vm.findClass own = some m.cls ∧ (∀ w ∈ gW, w.before args s = true) ∧ va_K D vwCl (vTy dA) s ∧ (∀ q, s.heap.size ≤ q → A q) ∧ meth.locks = false ∧ meth.sig.returnType = ret ∧ vNx s
def vS (p : Program) (l : Launch) (e : Env) (R : Room) (s : State) (m : MethodId) (args : Array Value) (below : List Frame) (meth : Method) (c : Code) (D : va_G) (dA : Nat → ClassId) (A : Nat → Prop) (nL : Nat) (rd : Prop) (Q : State → Prop) (k n : Nat) (h : Hp) (sz : Nat) (lv : List (Nat × Value)) (pc : Nat) (st : List Value) : Prop :=
  ∀ (H : Heap) (locs : List Loc) (ls : Array Slot), hI D dA A h H → H.size = sz → va_S A s.heap H locs → (rd → H = s.heap ∧ locs = []) → lv_has ls nL lv → W p l e R s m args below meth c H locs k n Q (F0 m pc ls st)
def vO {ρ : Type} (p : Program) (l : Launch) (e : Env) (R : Room) (s : State) (m : MethodId) (args : Array Value) (below : List Frame) (meth : Method) (c : Code) (D : va_G) (dA : Nat → ClassId) (A : Nat → Prop) (nL : Nat) (rd : Prop) (Q : ρ → State → Prop) (k n : Nat) (h : Hp) (sz : Nat) (lv : List (Nat × Value)) (pc : Nat) (st : List Value) (o : Option ρ) : Prop :=
  ∀ r, o = some r → vS p l e R s m args below meth c D dA A nL rd (Q r) k n h sz lv pc st
section VL
variable {ρ : Type} {p : Program} {l : Launch} {e : Env} {R : Room} {s : State} {m : MethodId} {args : Array Value} {below : List Frame} {meth : Method} {c : Code} {D : va_G} {dA : Nat → ClassId} {A : Nat → Prop} {cc : ByteArray} {nL : Nat} {own : String} {ret : Option FieldType} {rd : Prop} {Q : ρ → State → Prop} {k n : Nat} {h : Hp} {sz : Nat} {lv lv' : List (Nat × Value)} {pc : Nat} {st : List Value} {o o1 o2 : Option ρ}
theorem v_none : vO p l e R s m args below meth c D dA A nL rd Q k n h sz lv (pc) (st) none := fun r hr => by cases hr
theorem v_lv (ks : List Nat) (hk : lv_pick lv ks = lv') (kk : vO p l e R s m args below meth c D dA A nL rd Q k n h sz lv' (pc) (st) o) : vO p l e R s m args below meth c D dA A nL rd Q k n h sz lv (pc) (st) o := fun r hr H locs ls hh hz hS hJ hl => kk r hr H locs ls hh hz hS hJ (lv_sub hl ks hk)
theorem v_bind {β : Type} {F : Option β} {K : β → Option ρ} (kk : ∀ x, F = some x → vO p l e R s m args below meth c D dA A nL rd Q k n h sz lv (pc) (st) (K x)) : vO p l e R s m args below meth c D dA A nL rd Q k n h sz lv (pc) (st) (F.bind K) := fun r hr => by
  cases hF : F with
  | none => rw [hF] at hr; cases hr
  | some x => rw [hF] at hr; exact kk x hF r hr
theorem v_gd {q : Prop} [Decidable q] (kk : q → vO p l e R s m args below meth c D dA A nL rd Q k n h sz lv (pc) (st) o) : vO p l e R s m args below meth c D dA A nL rd Q k n h sz lv (pc) (st) (gd q o) := fun r hr => by
  unfold gd at hr
  by_cases hq : q
  · rw [if_pos hq] at hr; exact kk hq r hr
  · rw [if_neg hq] at hr; cases hr
theorem v_jn {X : Type} {J : X} {B : X → Option ρ} (P : X → Prop) (hJ : P J) (kk : ∀ j, P j → vO p l e R s m args below meth c D dA A nL rd Q k n h sz lv (pc) (st) (B j)) : vO p l e R s m args below meth c D dA A nL rd Q k n h sz lv (pc) (st) (jn J B) := kk J hJ
theorem v_iconst (C : vC p s m args meth c D dA A cc nL own ret) {i : Int} {v : Int32} (hd : decode cc pc = .ok (.iconst i, 1)) (hv : Int32.ofInt i = v) (kk : vO p l e R s m args below meth c D dA A nL rd Q k n h sz lv (pc + 1) (.int v :: st) o) : vO p l e R s m args below meth c D dA A nL rd Q k n h sz lv (pc) (st) o :=
  fun r hr H locs ls hh hz hS hJ hl => lv_iconst C.1 C.2.1 hd hv (kk r hr H locs ls hh hz hS hJ hl)
theorem v_bipush (C : vC p s m args meth c D dA A cc nL own ret) {i : Int} {v : Int32} (hd : decode cc pc = .ok (.bipush i, 2)) (hv : (Int8.ofInt i).toInt32 = v) (kk : vO p l e R s m args below meth c D dA A nL rd Q k n h sz lv (pc + 2) (.int v :: st) o) : vO p l e R s m args below meth c D dA A nL rd Q k n h sz lv (pc) (st) o :=
  fun r hr H locs ls hh hz hS hJ hl => lv_bipush C.1 C.2.1 hd hv (kk r hr H locs ls hh hz hS hJ hl)
theorem v_sipush (C : vC p s m args meth c D dA A cc nL own ret) {i : Int} {v : Int32} (hd : decode cc pc = .ok (.sipush i, 3)) (hv : (Int16.ofInt i).toInt32 = v) (kk : vO p l e R s m args below meth c D dA A nL rd Q k n h sz lv (pc + 3) (.int v :: st) o) : vO p l e R s m args below meth c D dA A nL rd Q k n h sz lv (pc) (st) o :=
  fun r hr H locs ls hh hz hS hJ hl => lv_sipush C.1 C.2.1 hd hv (kk r hr H locs ls hh hz hS hJ hl)
theorem v_ldc (C : vC p s m args meth c D dA A cc nL own ret) {index : Nat} {v : Int32} (hcn : Cond.constant own index v ∈ gW) (hd : decode cc pc = .ok (.ldc index, 2)) (kk : vO p l e R s m args below meth c D dA A nL rd Q k n h sz lv (pc + 2) (.int v :: st) o) : vO p l e R s m args below meth c D dA A nL rd Q k n h sz lv (pc) (st) o :=
  fun r hr H locs ls hh hz hS hJ hl => lv_ldc C.1 C.2.1 C.2.2.2.1 (C.2.2.2.2.1 _ hcn) hd (kk r hr H locs ls hh hz hS hJ hl)
theorem v_iload_n (C : vC p s m args meth c D dA A cc nL own ret) {f : Fin 4} {i : Nat} {x : Int32} (hd : decode cc pc = .ok (.iload_n f, 1)) (hi : (f : Nat) = i) (j : Nat) (hj : lv[j]? = some (i, .int x)) (kk : vO p l e R s m args below meth c D dA A nL rd Q k n h sz lv (pc + 1) (.int x :: st) o) : vO p l e R s m args below meth c D dA A nL rd Q k n h sz lv (pc) (st) o :=
  fun r hr H locs ls hh hz hS hJ hl => lv_iload_n C.1 C.2.1 hd hi (lv_at hl j hj) (kk r hr H locs ls hh hz hS hJ hl)
theorem v_iload (C : vC p s m args meth c D dA A cc nL own ret) {i : Nat} {x : Int32} (hd : decode cc pc = .ok (.iload i, 2)) (j : Nat) (hj : lv[j]? = some (i, .int x)) (kk : vO p l e R s m args below meth c D dA A nL rd Q k n h sz lv (pc + 2) (.int x :: st) o) : vO p l e R s m args below meth c D dA A nL rd Q k n h sz lv (pc) (st) o :=
  fun r hr H locs ls hh hz hS hJ hl => lv_iload C.1 C.2.1 hd (lv_at hl j hj) (kk r hr H locs ls hh hz hS hJ hl)
theorem v_aload_n (C : vC p s m args meth c D dA A cc nL own ret) {f : Fin 4} {i : Nat} {x : Nat} (hd : decode cc pc = .ok (.aload_n f, 1)) (hi : (f : Nat) = i) (j : Nat) (hj : lv[j]? = some (i, .ref x)) (kk : vO p l e R s m args below meth c D dA A nL rd Q k n h sz lv (pc + 1) (.ref x :: st) o) : vO p l e R s m args below meth c D dA A nL rd Q k n h sz lv (pc) (st) o :=
  fun r hr H locs ls hh hz hS hJ hl => lv_aload_n C.1 C.2.1 hd hi (lv_at hl j hj) (kk r hr H locs ls hh hz hS hJ hl)
theorem v_aload (C : vC p s m args meth c D dA A cc nL own ret) {i : Nat} {x : Nat} (hd : decode cc pc = .ok (.aload i, 2)) (j : Nat) (hj : lv[j]? = some (i, .ref x)) (kk : vO p l e R s m args below meth c D dA A nL rd Q k n h sz lv (pc + 2) (.ref x :: st) o) : vO p l e R s m args below meth c D dA A nL rd Q k n h sz lv (pc) (st) o :=
  fun r hr H locs ls hh hz hS hJ hl => lv_aload C.1 C.2.1 hd (lv_at hl j hj) (kk r hr H locs ls hh hz hS hJ hl)
theorem v_istore_n (C : vC p s m args meth c D dA A cc nL own ret) {f : Fin 4} {i : Nat} {x : Int32} (hd : decode cc pc = .ok (.istore_n f, 1)) (hi : (f : Nat) = i) (hn : i < nL) (ks : List Nat) (hk : lv_pick ((i, Value.int x) :: lv.filter (fun q => !(q.1 == i) && !(q.1 + 1 == i && q.2.category == 2))) ks = lv') (kk : vO p l e R s m args below meth c D dA A nL rd Q k n h sz lv' (pc + 1) (st) o) : vO p l e R s m args below meth c D dA A nL rd Q k n h sz lv (pc) (.int x :: st) o :=
  fun r hr H locs ls hh hz hS hJ hl => lv_istore_n C.1 C.2.1 hd hi hl hn rfl (fun ls' hl' => (kk r hr H locs ls' hh hz hS hJ (lv_sub hl' ks hk)))
theorem v_istore (C : vC p s m args meth c D dA A cc nL own ret) {i : Nat} {x : Int32} (hd : decode cc pc = .ok (.istore i, 2)) (hn : i < nL) (ks : List Nat) (hk : lv_pick ((i, Value.int x) :: lv.filter (fun q => !(q.1 == i) && !(q.1 + 1 == i && q.2.category == 2))) ks = lv') (kk : vO p l e R s m args below meth c D dA A nL rd Q k n h sz lv' (pc + 2) (st) o) : vO p l e R s m args below meth c D dA A nL rd Q k n h sz lv (pc) (.int x :: st) o :=
  fun r hr H locs ls hh hz hS hJ hl => lv_istore C.1 C.2.1 hd hl hn rfl (fun ls' hl' => (kk r hr H locs ls' hh hz hS hJ (lv_sub hl' ks hk)))
theorem v_astore_n (C : vC p s m args meth c D dA A cc nL own ret) {f : Fin 4} {i : Nat} {x : Nat} (hd : decode cc pc = .ok (.astore_n f, 1)) (hi : (f : Nat) = i) (hn : i < nL) (ks : List Nat) (hk : lv_pick ((i, Value.ref x) :: lv.filter (fun q => !(q.1 == i) && !(q.1 + 1 == i && q.2.category == 2))) ks = lv') (kk : vO p l e R s m args below meth c D dA A nL rd Q k n h sz lv' (pc + 1) (st) o) : vO p l e R s m args below meth c D dA A nL rd Q k n h sz lv (pc) (.ref x :: st) o :=
  fun r hr H locs ls hh hz hS hJ hl => lv_astore_n C.1 C.2.1 hd hi hl hn rfl (fun ls' hl' => (kk r hr H locs ls' hh hz hS hJ (lv_sub hl' ks hk)))
theorem v_astore (C : vC p s m args meth c D dA A cc nL own ret) {i : Nat} {x : Nat} (hd : decode cc pc = .ok (.astore i, 2)) (hn : i < nL) (ks : List Nat) (hk : lv_pick ((i, Value.ref x) :: lv.filter (fun q => !(q.1 == i) && !(q.1 + 1 == i && q.2.category == 2))) ks = lv') (kk : vO p l e R s m args below meth c D dA A nL rd Q k n h sz lv' (pc + 2) (st) o) : vO p l e R s m args below meth c D dA A nL rd Q k n h sz lv (pc) (.ref x :: st) o :=
  fun r hr H locs ls hh hz hS hJ hl => lv_astore C.1 C.2.1 hd hl hn rfl (fun ls' hl' => (kk r hr H locs ls' hh hz hS hJ (lv_sub hl' ks hk)))
theorem v_iinc (C : vC p s m args meth c D dA A cc nL own ret) {i : Nat} {d : Int} {x v : Int32} (hd : decode cc pc = .ok (.iinc i d, 3)) (j : Nat) (hj : lv[j]? = some (i, .int x)) (hv : x + Int32.ofInt d = v) (hn : i < nL) (ks : List Nat) (hk : lv_pick ((i, Value.int v) :: lv.filter (fun q => !(q.1 == i) && !(q.1 + 1 == i && q.2.category == 2))) ks = lv') (kk : vO p l e R s m args below meth c D dA A nL rd Q k n h sz lv' (pc + 3) (st) o) : vO p l e R s m args below meth c D dA A nL rd Q k n h sz lv (pc) (st) o :=
  fun r hr H locs ls hh hz hS hJ hl => lv_iinc C.1 C.2.1 hd hl hj hv hn rfl (fun ls' hl' => (kk r hr H locs ls' hh hz hS hJ (lv_sub hl' ks hk)))
theorem v_iadd (C : vC p s m args meth c D dA A cc nL own ret) {x y : Int32} (hd : decode cc pc = .ok (.iadd, 1)) (kk : vO p l e R s m args below meth c D dA A nL rd Q k n h sz lv (pc + 1) (.int (x + y) :: st) o) : vO p l e R s m args below meth c D dA A nL rd Q k n h sz lv (pc) (.int y :: .int x :: st) o :=
  fun r hr H locs ls hh hz hS hJ hl => lv_iadd C.1 C.2.1 hd (kk r hr H locs ls hh hz hS hJ hl)
theorem v_isub (C : vC p s m args meth c D dA A cc nL own ret) {x y : Int32} (hd : decode cc pc = .ok (.isub, 1)) (kk : vO p l e R s m args below meth c D dA A nL rd Q k n h sz lv (pc + 1) (.int (x - y) :: st) o) : vO p l e R s m args below meth c D dA A nL rd Q k n h sz lv (pc) (.int y :: .int x :: st) o :=
  fun r hr H locs ls hh hz hS hJ hl => lv_isub C.1 C.2.1 hd (kk r hr H locs ls hh hz hS hJ hl)
theorem v_imul (C : vC p s m args meth c D dA A cc nL own ret) {x y : Int32} (hd : decode cc pc = .ok (.imul, 1)) (kk : vO p l e R s m args below meth c D dA A nL rd Q k n h sz lv (pc + 1) (.int (x * y) :: st) o) : vO p l e R s m args below meth c D dA A nL rd Q k n h sz lv (pc) (.int y :: .int x :: st) o :=
  fun r hr H locs ls hh hz hS hJ hl => lv_imul C.1 C.2.1 hd (kk r hr H locs ls hh hz hS hJ hl)
theorem v_iand (C : vC p s m args meth c D dA A cc nL own ret) {x y : Int32} (hd : decode cc pc = .ok (.iand, 1)) (kk : vO p l e R s m args below meth c D dA A nL rd Q k n h sz lv (pc + 1) (.int (x &&& y) :: st) o) : vO p l e R s m args below meth c D dA A nL rd Q k n h sz lv (pc) (.int y :: .int x :: st) o :=
  fun r hr H locs ls hh hz hS hJ hl => lv_iand C.1 C.2.1 hd (kk r hr H locs ls hh hz hS hJ hl)
theorem v_ior (C : vC p s m args meth c D dA A cc nL own ret) {x y : Int32} (hd : decode cc pc = .ok (.ior, 1)) (kk : vO p l e R s m args below meth c D dA A nL rd Q k n h sz lv (pc + 1) (.int (x ||| y) :: st) o) : vO p l e R s m args below meth c D dA A nL rd Q k n h sz lv (pc) (.int y :: .int x :: st) o :=
  fun r hr H locs ls hh hz hS hJ hl => lv_ior C.1 C.2.1 hd (kk r hr H locs ls hh hz hS hJ hl)
theorem v_ixor (C : vC p s m args meth c D dA A cc nL own ret) {x y : Int32} (hd : decode cc pc = .ok (.ixor, 1)) (kk : vO p l e R s m args below meth c D dA A nL rd Q k n h sz lv (pc + 1) (.int (x ^^^ y) :: st) o) : vO p l e R s m args below meth c D dA A nL rd Q k n h sz lv (pc) (.int y :: .int x :: st) o :=
  fun r hr H locs ls hh hz hS hJ hl => lv_ixor C.1 C.2.1 hd (kk r hr H locs ls hh hz hS hJ hl)
theorem v_ishl (C : vC p s m args meth c D dA A cc nL own ret) {x y : Int32} (hd : decode cc pc = .ok (.ishl, 1)) (kk : vO p l e R s m args below meth c D dA A nL rd Q k n h sz lv (pc + 1) (.int (x <<< (y &&& 31)) :: st) o) : vO p l e R s m args below meth c D dA A nL rd Q k n h sz lv (pc) (.int y :: .int x :: st) o :=
  fun r hr H locs ls hh hz hS hJ hl => lv_ishl C.1 C.2.1 hd (kk r hr H locs ls hh hz hS hJ hl)
theorem v_ishr (C : vC p s m args meth c D dA A cc nL own ret) {x y : Int32} (hd : decode cc pc = .ok (.ishr, 1)) (kk : vO p l e R s m args below meth c D dA A nL rd Q k n h sz lv (pc + 1) (.int (x >>> (y &&& 31)) :: st) o) : vO p l e R s m args below meth c D dA A nL rd Q k n h sz lv (pc) (.int y :: .int x :: st) o :=
  fun r hr H locs ls hh hz hS hJ hl => lv_ishr C.1 C.2.1 hd (kk r hr H locs ls hh hz hS hJ hl)
theorem v_idiv (C : vC p s m args meth c D dA A cc nL own ret) {x y : Int32} (hd : decode cc pc = .ok (.idiv, 1)) (kk : vO p l e R s m args below meth c D dA A nL rd Q k n h sz lv (pc + 1) (.int (x / y) :: st) o) : vO p l e R s m args below meth c D dA A nL rd Q k n h sz lv (pc) (.int y :: .int x :: st) (gd (¬ y = 0) o) :=
  v_gd (fun hy r hr H locs ls hh hz hS hJ hl => lv_idiv C.1 C.2.1 hd hy (kk r hr H locs ls hh hz hS hJ hl))
theorem v_irem (C : vC p s m args meth c D dA A cc nL own ret) {x y : Int32} (hd : decode cc pc = .ok (.irem, 1)) (kk : vO p l e R s m args below meth c D dA A nL rd Q k n h sz lv (pc + 1) (.int (x - x / y * y) :: st) o) : vO p l e R s m args below meth c D dA A nL rd Q k n h sz lv (pc) (.int y :: .int x :: st) (gd (¬ y = 0) o) :=
  v_gd (fun hy r hr H locs ls hh hz hS hJ hl => lv_irem C.1 C.2.1 hd hy (kk r hr H locs ls hh hz hS hJ hl))
theorem v_ineg (C : vC p s m args meth c D dA A cc nL own ret) {x : Int32} (hd : decode cc pc = .ok (.ineg, 1)) (kk : vO p l e R s m args below meth c D dA A nL rd Q k n h sz lv (pc + 1) (.int (-x) :: st) o) : vO p l e R s m args below meth c D dA A nL rd Q k n h sz lv (pc) (.int x :: st) o :=
  fun r hr H locs ls hh hz hS hJ hl => lv_ineg C.1 C.2.1 hd (kk r hr H locs ls hh hz hS hJ hl)
theorem v_i2l (C : vC p s m args meth c D dA A cc nL own ret) {x : Int32} (hd : decode cc pc = .ok (.i2l, 1)) (kk : vO p l e R s m args below meth c D dA A nL rd Q k n h sz lv (pc + 1) (.long x.toInt64 :: st) o) : vO p l e R s m args below meth c D dA A nL rd Q k n h sz lv (pc) (.int x :: st) o :=
  fun r hr H locs ls hh hz hS hJ hl => lv_i2l C.1 C.2.1 hd rfl (kk r hr H locs ls hh hz hS hJ hl)
theorem v_dup (C : vC p s m args meth c D dA A cc nL own ret) {a : Value} (hd : decode cc pc = .ok (.dup, 1)) (ha : a.category = 1) (kk : vO p l e R s m args below meth c D dA A nL rd Q k n h sz lv (pc + 1) (a :: a :: st) o) : vO p l e R s m args below meth c D dA A nL rd Q k n h sz lv (pc) (a :: st) o :=
  fun r hr H locs ls hh hz hS hJ hl => lv_dup C.1 C.2.1 hd ha (kk r hr H locs ls hh hz hS hJ hl)
theorem v_pop (C : vC p s m args meth c D dA A cc nL own ret) {a : Value} (hd : decode cc pc = .ok (.pop, 1)) (ha : a.category = 1) (kk : vO p l e R s m args below meth c D dA A nL rd Q k n h sz lv (pc + 1) (st) o) : vO p l e R s m args below meth c D dA A nL rd Q k n h sz lv (pc) (a :: st) o :=
  fun r hr H locs ls hh hz hS hJ hl => lv_pop C.1 C.2.1 hd ha (kk r hr H locs ls hh hz hS hJ hl)
theorem v_dup_x1 (C : vC p s m args meth c D dA A cc nL own ret) {a b : Value} (hd : decode cc pc = .ok (.dup_x1, 1)) (ha : a.category = 1) (hb : b.category = 1) (kk : vO p l e R s m args below meth c D dA A nL rd Q k n h sz lv (pc + 1) (a :: b :: a :: st) o) : vO p l e R s m args below meth c D dA A nL rd Q k n h sz lv (pc) (a :: b :: st) o :=
  fun r hr H locs ls hh hz hS hJ hl => lv_dup_x1 C.1 C.2.1 hd ha hb (kk r hr H locs ls hh hz hS hJ hl)
theorem v_dup2 (C : vC p s m args meth c D dA A cc nL own ret) {a b : Value} (hd : decode cc pc = .ok (.dup2, 1)) (ha : a.category = 1) (hb : b.category = 1) (kk : vO p l e R s m args below meth c D dA A nL rd Q k n h sz lv (pc + 1) (a :: b :: a :: b :: st) o) : vO p l e R s m args below meth c D dA A nL rd Q k n h sz lv (pc) (a :: b :: st) o :=
  fun r hr H locs ls hh hz hS hJ hl => lv_dup2_11 C.1 C.2.1 hd ha hb (kk r hr H locs ls hh hz hS hJ hl)
theorem v_goto (C : vC p s m args meth c D dA A cc nL own ret) {off : Int} {tgt : Nat} (hd : decode cc pc = .ok (.goto off, 3)) (ht : (pc : Int) + off = (tgt : Int)) (kk : vO p l e R s m args below meth c D dA A nL rd Q k n h sz lv (tgt) (st) o) : vO p l e R s m args below meth c D dA A nL rd Q k n h sz lv (pc) (st) o :=
  fun r hr H locs ls hh hz hS hJ hl => lv_goto C.1 C.2.1 hd ht (kk r hr H locs ls hh hz hS hJ hl)
theorem v_if_eq (C : vC p s m args meth c D dA A cc nL own ret) {x : Int32} {off : Int} {tgt : Nat} (hd : decode cc pc = .ok (.ifCond .eq off, 3)) (ht : (pc : Int) + off = (tgt : Int)) (kt : vO p l e R s m args below meth c D dA A nL rd Q k n h sz lv (tgt) (st) o1) (kf : vO p l e R s m args below meth c D dA A nL rd Q k n h sz lv (pc + 3) (st) o2) : vO p l e R s m args below meth c D dA A nL rd Q k n h sz lv (pc) (.int x :: st) (if x = 0 then o1 else o2) :=
  fun r hr H locs ls hh hz hS hJ hl => lv_if_eq C.1 C.2.1 hd ht (fun q => kt r (by rw [if_pos q] at hr; exact hr) H locs ls hh hz hS hJ hl) (fun q => kf r (by rw [if_neg q] at hr; exact hr) H locs ls hh hz hS hJ hl)
theorem v_icmp_eq (C : vC p s m args meth c D dA A cc nL own ret) {x y : Int32} {off : Int} {tgt : Nat} (hd : decode cc pc = .ok (.if_icmp .eq off, 3)) (ht : (pc : Int) + off = (tgt : Int)) (kt : vO p l e R s m args below meth c D dA A nL rd Q k n h sz lv (tgt) (st) o1) (kf : vO p l e R s m args below meth c D dA A nL rd Q k n h sz lv (pc + 3) (st) o2) : vO p l e R s m args below meth c D dA A nL rd Q k n h sz lv (pc) (.int y :: .int x :: st) (if x = y then o1 else o2) :=
  fun r hr H locs ls hh hz hS hJ hl => lv_icmp_eq C.1 C.2.1 hd ht (fun q => kt r (by rw [if_pos q] at hr; exact hr) H locs ls hh hz hS hJ hl) (fun q => kf r (by rw [if_neg q] at hr; exact hr) H locs ls hh hz hS hJ hl)
theorem v_if_ne (C : vC p s m args meth c D dA A cc nL own ret) {x : Int32} {off : Int} {tgt : Nat} (hd : decode cc pc = .ok (.ifCond .ne off, 3)) (ht : (pc : Int) + off = (tgt : Int)) (kt : vO p l e R s m args below meth c D dA A nL rd Q k n h sz lv (tgt) (st) o2) (kf : vO p l e R s m args below meth c D dA A nL rd Q k n h sz lv (pc + 3) (st) o1) : vO p l e R s m args below meth c D dA A nL rd Q k n h sz lv (pc) (.int x :: st) (if x = 0 then o1 else o2) :=
  fun r hr H locs ls hh hz hS hJ hl => lv_if_ne C.1 C.2.1 hd ht (fun q => kt r (by rw [if_neg q] at hr; exact hr) H locs ls hh hz hS hJ hl) (fun q => kf r (by rw [if_pos q] at hr; exact hr) H locs ls hh hz hS hJ hl)
theorem v_icmp_ne (C : vC p s m args meth c D dA A cc nL own ret) {x y : Int32} {off : Int} {tgt : Nat} (hd : decode cc pc = .ok (.if_icmp .ne off, 3)) (ht : (pc : Int) + off = (tgt : Int)) (kt : vO p l e R s m args below meth c D dA A nL rd Q k n h sz lv (tgt) (st) o2) (kf : vO p l e R s m args below meth c D dA A nL rd Q k n h sz lv (pc + 3) (st) o1) : vO p l e R s m args below meth c D dA A nL rd Q k n h sz lv (pc) (.int y :: .int x :: st) (if x = y then o1 else o2) :=
  fun r hr H locs ls hh hz hS hJ hl => lv_icmp_ne C.1 C.2.1 hd ht (fun q => kt r (by rw [if_neg q] at hr; exact hr) H locs ls hh hz hS hJ hl) (fun q => kf r (by rw [if_pos q] at hr; exact hr) H locs ls hh hz hS hJ hl)
theorem v_if_lt (C : vC p s m args meth c D dA A cc nL own ret) {x : Int32} {off : Int} {tgt : Nat} (hd : decode cc pc = .ok (.ifCond .lt off, 3)) (ht : (pc : Int) + off = (tgt : Int)) (kt : vO p l e R s m args below meth c D dA A nL rd Q k n h sz lv (tgt) (st) o1) (kf : vO p l e R s m args below meth c D dA A nL rd Q k n h sz lv (pc + 3) (st) o2) : vO p l e R s m args below meth c D dA A nL rd Q k n h sz lv (pc) (.int x :: st) (if x < 0 then o1 else o2) :=
  fun r hr H locs ls hh hz hS hJ hl => lv_if_lt C.1 C.2.1 hd ht (fun q => kt r (by rw [if_pos q] at hr; exact hr) H locs ls hh hz hS hJ hl) (fun q => kf r (by rw [if_neg q] at hr; exact hr) H locs ls hh hz hS hJ hl)
theorem v_icmp_lt (C : vC p s m args meth c D dA A cc nL own ret) {x y : Int32} {off : Int} {tgt : Nat} (hd : decode cc pc = .ok (.if_icmp .lt off, 3)) (ht : (pc : Int) + off = (tgt : Int)) (kt : vO p l e R s m args below meth c D dA A nL rd Q k n h sz lv (tgt) (st) o1) (kf : vO p l e R s m args below meth c D dA A nL rd Q k n h sz lv (pc + 3) (st) o2) : vO p l e R s m args below meth c D dA A nL rd Q k n h sz lv (pc) (.int y :: .int x :: st) (if x < y then o1 else o2) :=
  fun r hr H locs ls hh hz hS hJ hl => lv_icmp_lt C.1 C.2.1 hd ht (fun q => kt r (by rw [if_pos q] at hr; exact hr) H locs ls hh hz hS hJ hl) (fun q => kf r (by rw [if_neg q] at hr; exact hr) H locs ls hh hz hS hJ hl)
theorem v_if_ge (C : vC p s m args meth c D dA A cc nL own ret) {x : Int32} {off : Int} {tgt : Nat} (hd : decode cc pc = .ok (.ifCond .ge off, 3)) (ht : (pc : Int) + off = (tgt : Int)) (kt : vO p l e R s m args below meth c D dA A nL rd Q k n h sz lv (tgt) (st) o1) (kf : vO p l e R s m args below meth c D dA A nL rd Q k n h sz lv (pc + 3) (st) o2) : vO p l e R s m args below meth c D dA A nL rd Q k n h sz lv (pc) (.int x :: st) (if 0 ≤ x then o1 else o2) :=
  fun r hr H locs ls hh hz hS hJ hl => lv_if_ge C.1 C.2.1 hd ht (fun q => kt r (by rw [if_pos q] at hr; exact hr) H locs ls hh hz hS hJ hl) (fun q => kf r (by rw [if_neg q] at hr; exact hr) H locs ls hh hz hS hJ hl)
theorem v_icmp_ge (C : vC p s m args meth c D dA A cc nL own ret) {x y : Int32} {off : Int} {tgt : Nat} (hd : decode cc pc = .ok (.if_icmp .ge off, 3)) (ht : (pc : Int) + off = (tgt : Int)) (kt : vO p l e R s m args below meth c D dA A nL rd Q k n h sz lv (tgt) (st) o1) (kf : vO p l e R s m args below meth c D dA A nL rd Q k n h sz lv (pc + 3) (st) o2) : vO p l e R s m args below meth c D dA A nL rd Q k n h sz lv (pc) (.int y :: .int x :: st) (if y ≤ x then o1 else o2) :=
  fun r hr H locs ls hh hz hS hJ hl => lv_icmp_ge C.1 C.2.1 hd ht (fun q => kt r (by rw [if_pos q] at hr; exact hr) H locs ls hh hz hS hJ hl) (fun q => kf r (by rw [if_neg q] at hr; exact hr) H locs ls hh hz hS hJ hl)
theorem v_if_gt (C : vC p s m args meth c D dA A cc nL own ret) {x : Int32} {off : Int} {tgt : Nat} (hd : decode cc pc = .ok (.ifCond .gt off, 3)) (ht : (pc : Int) + off = (tgt : Int)) (kt : vO p l e R s m args below meth c D dA A nL rd Q k n h sz lv (tgt) (st) o1) (kf : vO p l e R s m args below meth c D dA A nL rd Q k n h sz lv (pc + 3) (st) o2) : vO p l e R s m args below meth c D dA A nL rd Q k n h sz lv (pc) (.int x :: st) (if 0 < x then o1 else o2) :=
  fun r hr H locs ls hh hz hS hJ hl => lv_if_gt C.1 C.2.1 hd ht (fun q => kt r (by rw [if_pos q] at hr; exact hr) H locs ls hh hz hS hJ hl) (fun q => kf r (by rw [if_neg q] at hr; exact hr) H locs ls hh hz hS hJ hl)
theorem v_icmp_gt (C : vC p s m args meth c D dA A cc nL own ret) {x y : Int32} {off : Int} {tgt : Nat} (hd : decode cc pc = .ok (.if_icmp .gt off, 3)) (ht : (pc : Int) + off = (tgt : Int)) (kt : vO p l e R s m args below meth c D dA A nL rd Q k n h sz lv (tgt) (st) o1) (kf : vO p l e R s m args below meth c D dA A nL rd Q k n h sz lv (pc + 3) (st) o2) : vO p l e R s m args below meth c D dA A nL rd Q k n h sz lv (pc) (.int y :: .int x :: st) (if y < x then o1 else o2) :=
  fun r hr H locs ls hh hz hS hJ hl => lv_icmp_gt C.1 C.2.1 hd ht (fun q => kt r (by rw [if_pos q] at hr; exact hr) H locs ls hh hz hS hJ hl) (fun q => kf r (by rw [if_neg q] at hr; exact hr) H locs ls hh hz hS hJ hl)
theorem v_if_le (C : vC p s m args meth c D dA A cc nL own ret) {x : Int32} {off : Int} {tgt : Nat} (hd : decode cc pc = .ok (.ifCond .le off, 3)) (ht : (pc : Int) + off = (tgt : Int)) (kt : vO p l e R s m args below meth c D dA A nL rd Q k n h sz lv (tgt) (st) o1) (kf : vO p l e R s m args below meth c D dA A nL rd Q k n h sz lv (pc + 3) (st) o2) : vO p l e R s m args below meth c D dA A nL rd Q k n h sz lv (pc) (.int x :: st) (if x ≤ 0 then o1 else o2) :=
  fun r hr H locs ls hh hz hS hJ hl => lv_if_le C.1 C.2.1 hd ht (fun q => kt r (by rw [if_pos q] at hr; exact hr) H locs ls hh hz hS hJ hl) (fun q => kf r (by rw [if_neg q] at hr; exact hr) H locs ls hh hz hS hJ hl)
theorem v_icmp_le (C : vC p s m args meth c D dA A cc nL own ret) {x y : Int32} {off : Int} {tgt : Nat} (hd : decode cc pc = .ok (.if_icmp .le off, 3)) (ht : (pc : Int) + off = (tgt : Int)) (kt : vO p l e R s m args below meth c D dA A nL rd Q k n h sz lv (tgt) (st) o1) (kf : vO p l e R s m args below meth c D dA A nL rd Q k n h sz lv (pc + 3) (st) o2) : vO p l e R s m args below meth c D dA A nL rd Q k n h sz lv (pc) (.int y :: .int x :: st) (if x ≤ y then o1 else o2) :=
  fun r hr H locs ls hh hz hS hJ hl => lv_icmp_le C.1 C.2.1 hd ht (fun q => kt r (by rw [if_pos q] at hr; exact hr) H locs ls hh hz hS hJ hl) (fun q => kf r (by rw [if_neg q] at hr; exact hr) H locs ls hh hz hS hJ hl)

theorem gF_some {h : Hp} {a ci kf : Nat} {v : Value} (e : gF h a ci kf = some v) : ∃ fs, h a = some (.inr (ci, fs)) ∧ fs[kf]? = some v := by
  unfold gF at e
  split at e
  · rename_i o ho
    split at e
    · rename_i hc
      subst hc
      exact ⟨o.2, ho, e⟩
    · cases e
  · cases e
theorem gA_some {h : Hp} {a ti : Nat} {x : Nat × (Nat → Int32)} (e : gA h a ti = some x) : h a = some (.inl (ti, x.1, .inl x.2)) := by
  unfold gA at e
  split at e
  · rename_i o ho
    split at e
    · rename_i hc
      split at e
      · rename_i n f hx
        cases e
        rw [ho, ← hc, ← hx]
      · cases e
    · cases e
  · cases e
theorem gQ_some {h : Hp} {a ti : Nat} {x : Nat × (Nat → Option Nat)} (e : gQ h a ti = some x) : h a = some (.inl (ti, x.1, .inr (.inr (.inr (.inr x.2))))) := by
  unfold gQ at e
  split at e
  · rename_i o ho
    split at e
    · rename_i hc
      split at e
      · rename_i n f hx
        cases e
        rw [ho, ← hc, ← hx]
      · cases e
    · cases e
  · cases e
theorem gL_some {h : Hp} {a ti : Nat} {x : Nat × (Nat → Int64)} (e : gL h a ti = some x) : h a = some (.inl (ti, x.1, .inr (.inl x.2))) := by
  unfold gL at e
  split at e
  · rename_i o ho
    split at e
    · rename_i hc
      split at e
      · rename_i n f hx
        cases e
        rw [ho, ← hc, ← hx]
      · cases e
    · cases e
  · cases e
theorem isO_some {h : Hp} {v ci : Nat} (e : isO h v ci = true) : ∃ fs, h v = some (.inr (ci, fs)) := by
  unfold isO at e
  split at e
  · rename_i o ho
    have hc := of_decide_eq_true e
    subst hc
    exact ⟨o.2, ho⟩
  · cases e

theorem v_getI (C : vC p s m args meth c D dA A cc nL own ret) {ci kf index a : Nat} {Cn ref : String} {T : u_T} {N : Nat} {K : Int32 → Option ρ} (hc : vwCl[ci]? = some (Cn, T, N)) (hk : kf < N) (hin : ∀ w ∈ u_ws Cn T N, w ∈ gW) (hrf : (T kf).1 = ref) (hlk : (Cond.fieldLink own index ref (T kf).2.1 (T kf).2.2.1) ∈ gW) (hd : decode cc pc = .ok (.getfield index, 3)) (kk : ∀ x, vO p l e R s m args below meth c D dA A nL rd Q k n h sz lv (pc + 3) (.int x :: st) (K x)) : vO p l e R s m args below meth c D dA A nL rd Q k n h sz lv (pc) (.ref a :: st) (gI h a ci kf K) := by
  intro r hr H locs ls hh hz hS hJ hl
  unfold gI at hr
  split at hr
  · rename_i x hg
    obtain ⟨fs, e, hf⟩ := gF_some hg
    subst hrf
    exact va_get (D := D) C.1 C.2.1 C.2.2.2.2.1 hin C.2.2.2.1 C.2.2.2.2.2.1 (hh.one e) 0 rfl hc kf hk (C.2.2.2.2.1 _ hlk) (fun _ h9 => h9) hf hd (kk x r hr H locs ls hh hz hS hJ hl)
  · cases hr

theorem v_getIN (C : vC p s m args meth c D dA A cc nL own ret) {ci kf index a : Nat} {Cn ref host : String} {T : u_T} {N : Nat} {K : Int32 → Option ρ} (hc : vwCl[ci]? = some (Cn, T, N)) (hk : kf < N) (hin : ∀ w ∈ u_ws Cn T N, w ∈ gW) (hrf : (T kf).1 = ref) (hlk : va_Nw (.fieldLinkNest own index ref (T kf).2.1 (T kf).2.2.1 host) s) (hd : decode cc pc = .ok (.getfield index, 3)) (kk : ∀ x, vO p l e R s m args below meth c D dA A nL rd Q k n h sz lv (pc + 3) (.int x :: st) (K x)) : vO p l e R s m args below meth c D dA A nL rd Q k n h sz lv (pc) (.ref a :: st) (gI h a ci kf K) := by
  intro r hr H locs ls hh hz hS hJ hl
  unfold gI at hr
  split at hr
  · rename_i x hg
    obtain ⟨fs, e, hf⟩ := gF_some hg
    subst hrf
    exact va_getN (D := D) C.1 C.2.1 C.2.2.2.2.1 hin C.2.2.2.1 C.2.2.2.2.2.1 (hh.one e) 0 rfl hc kf hk (va_Nw.use rfl hlk) (fun _ h9 => h9) hf hd (kk x r hr H locs ls hh hz hS hJ hl)
  · cases hr

theorem v_getR (C : vC p s m args meth c D dA A cc nL own ret) {ci kf index a : Nat} {Cn ref : String} {T : u_T} {N : Nat} {K : Nat → Option ρ} (hc : vwCl[ci]? = some (Cn, T, N)) (hk : kf < N) (hin : ∀ w ∈ u_ws Cn T N, w ∈ gW) (hrf : (T kf).1 = ref) (hlk : (Cond.fieldLink own index ref (T kf).2.1 (T kf).2.2.1) ∈ gW) (hd : decode cc pc = .ok (.getfield index, 3)) (kk : ∀ x, vO p l e R s m args below meth c D dA A nL rd Q k n h sz lv (pc + 3) (.ref x :: st) (K x)) : vO p l e R s m args below meth c D dA A nL rd Q k n h sz lv (pc) (.ref a :: st) (gR h a ci kf K) := by
  intro r hr H locs ls hh hz hS hJ hl
  unfold gR at hr
  split at hr
  · rename_i x hg
    obtain ⟨fs, e, hf⟩ := gF_some hg
    subst hrf
    exact va_get (D := D) C.1 C.2.1 C.2.2.2.2.1 hin C.2.2.2.1 C.2.2.2.2.2.1 (hh.one e) 0 rfl hc kf hk (C.2.2.2.2.1 _ hlk) (fun _ h9 => h9) hf hd (kk x r hr H locs ls hh hz hS hJ hl)
  · cases hr

theorem v_getRN (C : vC p s m args meth c D dA A cc nL own ret) {ci kf index a : Nat} {Cn ref host : String} {T : u_T} {N : Nat} {K : Nat → Option ρ} (hc : vwCl[ci]? = some (Cn, T, N)) (hk : kf < N) (hin : ∀ w ∈ u_ws Cn T N, w ∈ gW) (hrf : (T kf).1 = ref) (hlk : va_Nw (.fieldLinkNest own index ref (T kf).2.1 (T kf).2.2.1 host) s) (hd : decode cc pc = .ok (.getfield index, 3)) (kk : ∀ x, vO p l e R s m args below meth c D dA A nL rd Q k n h sz lv (pc + 3) (.ref x :: st) (K x)) : vO p l e R s m args below meth c D dA A nL rd Q k n h sz lv (pc) (.ref a :: st) (gR h a ci kf K) := by
  intro r hr H locs ls hh hz hS hJ hl
  unfold gR at hr
  split at hr
  · rename_i x hg
    obtain ⟨fs, e, hf⟩ := gF_some hg
    subst hrf
    exact va_getN (D := D) C.1 C.2.1 C.2.2.2.2.1 hin C.2.2.2.1 C.2.2.2.2.2.1 (hh.one e) 0 rfl hc kf hk (va_Nw.use rfl hlk) (fun _ h9 => h9) hf hd (kk x r hr H locs ls hh hz hS hJ hl)
  · cases hr

theorem v_put (C : vC p s m args meth c D dA A cc nL own ret) {ci kf index a : Nat} {v : Value} {Cn ref : String} {T : u_T} {N : Nat} {K : Hp → Option ρ} (hc : vwCl[ci]? = some (Cn, T, N)) (hk : kf < N) (hin : ∀ w ∈ u_ws Cn T N, w ∈ gW) (ty0 : Nat → FieldType) (hty : ∀ k, k < N → parseFieldDescriptor (T k).2.2.1 = some (ty0 k)) (hnm : ∀ a, a < N → ∀ b, b < N → a ≠ b → (T a).2.1 ≠ (T b).2.1) (hrf : (T kf).1 = ref) (hlk : (Cond.fieldLink own index ref (T kf).2.1 (T kf).2.2.1) ∈ gW) (hfin : (T kf).2.2.2 = false) {ty : FieldType} (hpd : parseFieldDescriptor (T kf).2.2.1 = some ty) (hnv : narrow ty v = v) (hfv : fits ty v = true) (hd : decode cc pc = .ok (.putfield index, 3)) (kk : ∀ h, vO p l e R s m args below meth c D dA A nL False Q k n h sz lv (pc + 3) (st) (K h)) : vO p l e R s m args below meth c D dA A nL False Q k n h sz lv (pc) (v :: .ref a :: st) (pF h a ci kf v K) := by
  intro r hr H locs ls hh hz hS hJ hl
  unfold pF at hr
  split at hr
  · rename_i oo e
    split at hr
    · rename_i hcl
      obtain ⟨ci', fs⟩ := oo
      obtain ⟨rfl, hlen⟩ := hcl
      subst hrf
      have hts := C.2.2.2.2.1
      have hK := C.2.2.2.2.2.1
      have hap := va_apart (own := own) hts hin ty0 hty hnm hK hc
      obtain ⟨⟨r0, h1, cell, q1, q2, q3, q4⟩, hAa⟩ := hh a _ e
      have hr0 : r0 = (Cn, T, N) := Option.some.inj (h1.symm.trans hc)
      subst hr0
      obtain ⟨hSl, hfc, kC, hkC, hkind⟩ := hK.1 _ _ hc
      obtain ⟨cf, kf', fi, f, hi, hsl⟩ := hSl kf hk
      have hlay := hts _ (hin _ (u_in_lay hk))
      unfold u_lay at hlay
      rw [if_neg (by rw [hfin]; decide)] at hlay
      have h6 := u_store hfc hkC hkind hlay hi hpd hnv hfv
      have hst := (u_facts hfc hkC (u_lays hts hin hk) hi).1
      refine W.putK C.1 C.2.1 (f := f) ⟨C.2.2.2.1, hts _ hlk, ⟨_, _, _, hi⟩, hst⟩ (by rw [q2]; exact h6) q1 q3 (by rw [hsl]; exact k2_hasslot (q4 kf hk)) rfl rfl hd fun H' e1 e2 e3 => ?_
      rw [hsl] at e1 ⊢
      exact kk _ r hr H' _ ls (hh.set e ⟨_, hc, t_OB.to (V := updV (vp_V fs) kf v) ⟨_, e1, q2, q3, t_set q4 hap hk v⟩ (fun j _ => vp_updV_set hlen v j)⟩ e3) (e2.trans hz) (hS.put e2 e3 hAa) (fun f => f.elim) hl
    · cases hr
  · cases hr

theorem v_putN (C : vC p s m args meth c D dA A cc nL own ret) {ci kf index a : Nat} {v : Value} {Cn ref host : String} {T : u_T} {N : Nat} {K : Hp → Option ρ} (hc : vwCl[ci]? = some (Cn, T, N)) (hk : kf < N) (hin : ∀ w ∈ u_ws Cn T N, w ∈ gW) (ty0 : Nat → FieldType) (hty : ∀ k, k < N → parseFieldDescriptor (T k).2.2.1 = some (ty0 k)) (hnm : ∀ a, a < N → ∀ b, b < N → a ≠ b → (T a).2.1 ≠ (T b).2.1) (hrf : (T kf).1 = ref) (hlk : va_Nw (.fieldLinkNest own index ref (T kf).2.1 (T kf).2.2.1 host) s) (hfin : (T kf).2.2.2 = false) {ty : FieldType} (hpd : parseFieldDescriptor (T kf).2.2.1 = some ty) (hnv : narrow ty v = v) (hfv : fits ty v = true) (hd : decode cc pc = .ok (.putfield index, 3)) (kk : ∀ h, vO p l e R s m args below meth c D dA A nL False Q k n h sz lv (pc + 3) (st) (K h)) : vO p l e R s m args below meth c D dA A nL False Q k n h sz lv (pc) (v :: .ref a :: st) (pF h a ci kf v K) := by
  intro r hr H locs ls hh hz hS hJ hl
  unfold pF at hr
  split at hr
  · rename_i oo e
    split at hr
    · rename_i hcl
      obtain ⟨ci', fs⟩ := oo
      obtain ⟨rfl, hlen⟩ := hcl
      subst hrf
      have hts := C.2.2.2.2.1
      have hK := C.2.2.2.2.2.1
      have hap := va_apart (own := own) hts hin ty0 hty hnm hK hc
      obtain ⟨⟨r0, h1, cell, q1, q2, q3, q4⟩, hAa⟩ := hh a _ e
      have hr0 : r0 = (Cn, T, N) := Option.some.inj (h1.symm.trans hc)
      subst hr0
      obtain ⟨hSl, hfc, kC, hkC, hkind⟩ := hK.1 _ _ hc
      obtain ⟨cf, kf', fi, f, hi, hsl⟩ := hSl kf hk
      have hlay := hts _ (hin _ (u_in_lay hk))
      unfold u_lay at hlay
      rw [if_neg (by rw [hfin]; decide)] at hlay
      have h6 := u_store hfc hkC hkind hlay hi hpd hnv hfv
      have hst := (u_facts hfc hkC (u_lays hts hin hk) hi).1
      refine va_WputK C.1 C.2.1 (f := f) C.2.2.2.1 (va_Nw.use rfl hlk) hi hst (by rw [q2]; exact h6) q1 q3 (by rw [hsl]; exact k2_hasslot (q4 kf hk)) rfl rfl hd fun H' e1 e2 e3 => ?_
      rw [hsl] at e1 ⊢
      exact kk _ r hr H' _ ls (hh.set e ⟨_, hc, t_OB.to (V := updV (vp_V fs) kf v) ⟨_, e1, q2, q3, t_set q4 hap hk v⟩ (fun j _ => vp_updV_set hlen v j)⟩ e3) (e2.trans hz) (hS.put e2 e3 hAa) (fun f => f.elim) hl
    · cases hr
  · cases hr

theorem v_putF (C : vC p s m args meth c D dA A cc nL own ret) {ci kf index a : Nat} {v : Value} {Cn ref : String} {T : u_T} {N : Nat} {K : Hp → Option ρ} (hc : vwCl[ci]? = some (Cn, T, N)) (hk : kf < N) (hin : ∀ w ∈ u_ws Cn T N, w ∈ gW) (ty0 : Nat → FieldType) (hty : ∀ k, k < N → parseFieldDescriptor (T k).2.2.1 = some (ty0 k)) (hnm : ∀ a, a < N → ∀ b, b < N → a ≠ b → (T a).2.1 ≠ (T b).2.1) (hrf : (T kf).1 = ref) (hlk : (Cond.fieldLink own index ref (T kf).2.1 (T kf).2.2.1) ∈ gW) (hfin : (T kf).2.2.2 = true) (hin2 : meth.name = "<init>") (hdecl : (T kf).1 = own) {ty : FieldType} (hpd : parseFieldDescriptor (T kf).2.2.1 = some ty) (hnv : narrow ty v = v) (hfv : fits ty v = true) (hd : decode cc pc = .ok (.putfield index, 3)) (kk : ∀ h, vO p l e R s m args below meth c D dA A nL False Q k n h sz lv (pc + 3) (st) (K h)) : vO p l e R s m args below meth c D dA A nL False Q k n h sz lv (pc) (v :: .ref a :: st) (pF h a ci kf v K) := by
  intro r hr H locs ls hh hz hS hJ hl
  unfold pF at hr
  split at hr
  · rename_i oo e
    split at hr
    · rename_i hcl
      obtain ⟨ci', fs⟩ := oo
      obtain ⟨rfl, hlen⟩ := hcl
      subst hrf
      have hts := C.2.2.2.2.1
      have hK := C.2.2.2.2.2.1
      have hap := va_apart (own := own) hts hin ty0 hty hnm hK hc
      obtain ⟨⟨r0, h1, cell, q1, q2, q3, q4⟩, hAa⟩ := hh a _ e
      have hr0 : r0 = (Cn, T, N) := Option.some.inj (h1.symm.trans hc)
      subst hr0
      obtain ⟨hSl, hfc, kC, hkC, hkind⟩ := hK.1 _ _ hc
      obtain ⟨cf, kf', fi, f, hi, hsl⟩ := hSl kf hk
      have hlay := hts _ (hin _ (u_in_lay hk))
      unfold u_lay at hlay
      rw [if_pos hfin] at hlay
      have hcf : m.cls = cf := by
        obtain ⟨_, _, c9, _, _, _, -, -, hf9, -, -, -, hown2, -⟩ := Cond.laysFinal_spec hlay
        have e1 : c9 = cf := by have := hi.symm.trans hf9; simp at this; exact this.1.symm
        rw [hdecl] at hown2
        rw [← e1]; exact Option.some.inj (C.2.2.2.1.symm.trans hown2)
      have h6 := u_fits hfc hkC hkind (Or.inr hlay) hi hpd hnv hfv
      have hst := (u_facts hfc hkC (u_lays hts hin hk) hi).1
      refine W.putFinK C.1 C.2.1 C.2.2.2.1 (hts _ hlk) hi hst hcf hin2 (by rw [q2]; exact h6) q1 q3 (by rw [hsl]; exact k2_hasslot (q4 kf hk)) rfl rfl hd fun H' e1 e2 e3 => ?_
      rw [hsl] at e1 ⊢
      exact kk _ r hr H' _ ls (hh.set e ⟨_, hc, t_OB.to (V := updV (vp_V fs) kf v) ⟨_, e1, q2, q3, t_set q4 hap hk v⟩ (fun j _ => vp_updV_set hlen v j)⟩ e3) (e2.trans hz) (hS.put e2 e3 hAa) (fun f => f.elim) hl
    · cases hr
  · cases hr

theorem v_iald (C : vC p s m args meth c D dA A cc nL own ret) {ti a : Nat} {i : Int32} {K : Int32 → Option ρ} (ht : (vTy dA)[ti]? = some (dA ti, .int)) (hd : decode cc pc = .ok (.iaload, 1)) (kk : ∀ x, vO p l e R s m args below meth c D dA A nL rd Q k n h sz lv (pc + 1) (.int x :: st) (K x)) : vO p l e R s m args below meth c D dA A nL rd Q k n h sz lv (pc) (.int i :: .ref a :: st) (ldI h a ti i K) := by
  intro r hr H locs ls hh hz hS hJ hl
  unfold ldI at hr
  split at hr
  · rename_i x hg
    split at hr
    · rename_i hin
      exact va_iald (D := D) C.1 C.2.1 C.2.2.2.2.2.1 (hh.one (gA_some hg)) 0 ti rfl ht (vp_in_iff.mpr hin) hd (kk _ r hr H locs ls hh hz hS hJ hl)
    · cases hr
  · cases hr

theorem v_zald (C : vC p s m args meth c D dA A cc nL own ret) {ti a : Nat} {i : Int32} {K : Int32 → Option ρ} (ht : (vTy dA)[ti]? = some (dA ti, .boolean)) (hd : decode cc pc = .ok (.baload, 1)) (kk : ∀ x, vO p l e R s m args below meth c D dA A nL rd Q k n h sz lv (pc + 1) (.int x :: st) (K x)) : vO p l e R s m args below meth c D dA A nL rd Q k n h sz lv (pc) (.int i :: .ref a :: st) (ldI h a ti i K) := by
  intro r hr H locs ls hh hz hS hJ hl
  unfold ldI at hr
  split at hr
  · rename_i x hg
    split at hr
    · rename_i hin
      exact va_zald (D := D) C.1 C.2.1 C.2.2.2.2.2.1 (hh.one (gA_some hg)) 0 ti rfl ht (vp_in_iff.mpr hin) hd (kk _ r hr H locs ls hh hz hS hJ hl)
    · cases hr
  · cases hr

theorem v_lald (C : vC p s m args meth c D dA A cc nL own ret) {ti a : Nat} {i : Int32} {K : Int64 → Option ρ} (ht : (vTy dA)[ti]? = some (dA ti, .long)) (hd : decode cc pc = .ok (.laload, 1)) (kk : ∀ x, vO p l e R s m args below meth c D dA A nL rd Q k n h sz lv (pc + 1) (.long x :: st) (K x)) : vO p l e R s m args below meth c D dA A nL rd Q k n h sz lv (pc) (.int i :: .ref a :: st) (ldL h a ti i K) := by
  intro r hr H locs ls hh hz hS hJ hl
  unfold ldL at hr
  split at hr
  · rename_i x hg
    split at hr
    · rename_i hin
      exact va_lald (D := D) C.1 C.2.1 C.2.2.2.2.2.1 (hh.one (gL_some hg)) 0 ti rfl ht (vp_in_iff.mpr hin) hd (kk _ r hr H locs ls hh hz hS hJ hl)
    · cases hr
  · cases hr

theorem v_iast (C : vC p s m args meth c D dA A cc nL own ret) {ti a : Nat} {i : Int32} {x : Int32} {K : Hp → Option ρ} (ht : (vTy dA)[ti]? = some (dA ti, .int)) (hd : decode cc pc = .ok (.iastore, 1)) (kk : ∀ h, vO p l e R s m args below meth c D dA A nL False Q k n h sz lv (pc + 1) (st) (K h)) : vO p l e R s m args below meth c D dA A nL False Q k n h sz lv (pc) (.int x :: .int i :: .ref a :: st) (stI h a ti i x K) := by
  intro r hr H locs ls hh hz hS hJ hl
  unfold stI at hr
  split at hr
  · rename_i y hg
    split at hr
    · rename_i hin
      have e := gA_some hg
      have hv : H[a]? = some (vp_cell (dA ti) (y.1, .inl y.2)) := (hh a _ e).1
      refine W.iast C.1 C.2.1 hv ((C.2.2.2.2.2.1.2 ti _ ht).1 y.1 (fun j => .int (y.2 j))) (fun q => by cases q) (by show ¬ (i < 0 ∨ (arrV _ _ _).slots.size ≤ _); rw [arrV_size]; exact vp_in_iff.mpr hin) rfl rfl hd fun H1 e1 z oq => ?_
      refine kk _ r hr H1 _ ls (hh.set e ?_ oq) (z.trans hz) (hS.put z oq (hh a _ e).2) (fun f => f.elim) hl
      show H1[a]? = some (vp_cell _ _)
      rw [e1]
      show some ((vp_cell (dA ti) (y.1, .inl y.2)).setSlot _ _) = some (vp_cell (dA ti) (y.1, .inl (upd y.2 i.toNatClampNeg x)))
      rw [vp_cell_i, vp_cell_i, arrV_store]
      congr 2
      funext q
      by_cases hq : q = i.toNatClampNeg
      · subst hq
        simp [updV, upd, vp_nar]
        try rfl
      · simp [updV, upd, hq]
    · cases hr
  · cases hr

theorem v_zast (C : vC p s m args meth c D dA A cc nL own ret) {ti a : Nat} {i : Int32} {x : Int32} {K : Hp → Option ρ} (ht : (vTy dA)[ti]? = some (dA ti, .boolean)) (hd : decode cc pc = .ok (.bastore, 1)) (kk : ∀ h, vO p l e R s m args below meth c D dA A nL False Q k n h sz lv (pc + 1) (st) (K h)) : vO p l e R s m args below meth c D dA A nL False Q k n h sz lv (pc) (.int x :: .int i :: .ref a :: st) (stI h a ti i (vp_nar .boolean x) K) := by
  intro r hr H locs ls hh hz hS hJ hl
  unfold stI at hr
  split at hr
  · rename_i y hg
    split at hr
    · rename_i hin
      have e := gA_some hg
      have hv : H[a]? = some (vp_cell (dA ti) (y.1, .inl y.2)) := (hh a _ e).1
      refine W.zast C.1 C.2.1 hv ((C.2.2.2.2.2.1.2 ti _ ht).1 y.1 (fun j => .int (y.2 j))) (fun q => by cases q) (by show ¬ (i < 0 ∨ (arrV _ _ _).slots.size ≤ _); rw [arrV_size]; exact vp_in_iff.mpr hin) rfl rfl hd fun H1 e1 z oq => ?_
      refine kk _ r hr H1 _ ls (hh.set e ?_ oq) (z.trans hz) (hS.put z oq (hh a _ e).2) (fun f => f.elim) hl
      show H1[a]? = some (vp_cell _ _)
      rw [e1]
      show some ((vp_cell (dA ti) (y.1, .inl y.2)).setSlot _ _) = some (vp_cell (dA ti) (y.1, .inl (upd y.2 i.toNatClampNeg (vp_nar .boolean x))))
      rw [vp_cell_i, vp_cell_i, arrV_store]
      congr 2
      funext q
      by_cases hq : q = i.toNatClampNeg
      · subst hq
        simp [updV, upd, vp_nar]
        try rfl
      · simp [updV, upd, hq]
    · cases hr
  · cases hr

theorem v_last (C : vC p s m args meth c D dA A cc nL own ret) {ti a : Nat} {i : Int32} {x : Int64} {K : Hp → Option ρ} (ht : (vTy dA)[ti]? = some (dA ti, .long)) (hd : decode cc pc = .ok (.lastore, 1)) (kk : ∀ h, vO p l e R s m args below meth c D dA A nL False Q k n h sz lv (pc + 1) (st) (K h)) : vO p l e R s m args below meth c D dA A nL False Q k n h sz lv (pc) (.long x :: .int i :: .ref a :: st) (stL h a ti i x K) := by
  intro r hr H locs ls hh hz hS hJ hl
  unfold stL at hr
  split at hr
  · rename_i y hg
    split at hr
    · rename_i hin
      have e := gL_some hg
      have hv : H[a]? = some (vp_cell (dA ti) (y.1, .inr (.inl y.2))) := (hh a _ e).1
      refine W.last C.1 C.2.1 hv ((C.2.2.2.2.2.1.2 ti _ ht).1 y.1 (fun j => .long (y.2 j))) (fun q => by cases q) (by show ¬ (i < 0 ∨ (arrV _ _ _).slots.size ≤ _); rw [arrV_size]; exact vp_in_iff.mpr hin) rfl rfl hd fun H1 e1 z oq => ?_
      refine kk _ r hr H1 _ ls (hh.set e ?_ oq) (z.trans hz) (hS.put z oq (hh a _ e).2) (fun f => f.elim) hl
      show H1[a]? = some (vp_cell _ _)
      rw [e1]
      show some ((vp_cell (dA ti) (y.1, .inr (.inl y.2))).setSlot _ _) = some (vp_cell (dA ti) (y.1, .inr <| .inl (vp_updL y.2 i.toNatClampNeg x)))
      rw [vp_cell_l, vp_cell_l, arrV_store]
      congr 2
      funext q
      by_cases hq : q = i.toNatClampNeg
      · subst hq
        simp [updV, vp_updL, vp_nar]
        try rfl
      · simp [updV, vp_updL, hq]
    · cases hr
  · cases hr

theorem v_aald (C : vC p s m args meth c D dA A cc nL own ret) {ti a : Nat} {i : Int32} {Cn : String} {K : Nat → Option ρ} (ht : (vTy dA)[ti]? = some (dA ti, .object Cn)) (hd : decode cc pc = .ok (.aaload, 1)) (kk : ∀ x, vO p l e R s m args below meth c D dA A nL rd Q k n h sz lv (pc + 1) (.ref x :: st) (K x)) : vO p l e R s m args below meth c D dA A nL rd Q k n h sz lv (pc) (.int i :: .ref a :: st) (ldQ h a ti i K) := by
  intro r hr H locs ls hh hz hS hJ hl
  unfold ldQ at hr
  split at hr
  · rename_i y hg
    split at hr
    · rename_i hin
      split at hr
      · rename_i q hq
        have hrow := kk q r hr H locs ls hh hz hS hJ hl
        refine va_aldq (D := D) C.1 C.2.1 C.2.2.2.2.2.1 (hh.one (gQ_some hg)) 0 ti rfl ht (vp_in_iff.mpr hin) hd ?_
        rw [hq]
        exact hrow
      · cases hr
    · cases hr
  · cases hr

theorem v_aast (C : vC p s m args meth c D dA A cc nL own ret) {ti a v ci : Nat} {i : Int32} {rr : vw_C} {K : Hp → Option ρ} (ht : (vTy dA)[ti]? = some (dA ti, .object rr.1)) (hc : vwCl[ci]? = some rr) (hd : decode cc pc = .ok (.aastore, 1)) (kk : ∀ h, vO p l e R s m args below meth c D dA A nL False Q k n h sz lv (pc + 1) (st) (K h)) : vO p l e R s m args below meth c D dA A nL False Q k n h sz lv (pc) (.ref v :: .int i :: .ref a :: st) (stQ h a ti i ci v K) := by
  intro r hr H locs ls hh hz hS hJ hl
  unfold stQ at hr
  split at hr
  · rename_i y hg
    split at hr
    · rename_i hin
      obtain ⟨hin, hO⟩ := hin
      obtain ⟨vs, hvs⟩ := isO_some hO
      have e := gQ_some hg
      have hin' := vp_in_iff.mpr hin
      have hlt : i.toNatClampNeg < y.1 := Nat.not_le.mp fun q => hin' (Or.inr q)
      have h0 : ¬ i < 0 := fun q => hin' (Or.inl q)
      have hK := C.2.2.2.2.2.1
      obtain ⟨⟨r', hr', cellV, g1, g2, g3, -⟩, -⟩ := hh v _ hvs
      have hcls := (hK.1 ci rr hc).2
      obtain ⟨kA, comp, k1, k2, k3, -⟩ := (hK.2 ti _ ht).2
      have hcomp : comp = D.1 ci := Option.some.inj (k3.symm.trans hcls.1)
      subst hcomp
      obtain ⟨kC, hkC, -⟩ := hcls.2
      have hv : H[a]? = some (vp_cell (dA ti) (y.1, .inr (.inr (.inr (.inr y.2))))) := (hh a _ e).1
      refine W.aast C.1 C.2.1 hv (fun q h => by cases h) (fun h => by cases h) k1 k2 rfl hkC ⟨h0, by show _ < (arrV _ _ _).slots.size; rw [arrV_size]; exact hlt⟩ g1 (fun q h => by rw [g3] at h; cases h) (by rw [g2]; exact hkC) (by rw [g2]; exact va_assign hcls) rfl rfl hd fun H1 e1 z oq => ?_
      refine kk _ r hr H1 _ ls (hh.set e ?_ oq) (z.trans hz) (hS.put z oq (hh a _ e).2) (fun f => f.elim) hl
      show H1[a]? = some (vp_cell _ _)
      rw [e1]
      show some ((vp_cell (dA ti) (y.1, .inr (.inr (.inr (.inr y.2))))).setSlot _ _) = some (vp_cell (dA ti) (y.1, .inr (.inr (.inr (.inr (va_up y.2 i.toNatClampNeg (some v)))))))
      rw [vp_cell_q, vp_cell_q, arrV_store]
      congr 2
      funext q
      by_cases hq : q = i.toNatClampNeg
      · subst hq
        simp [updV, va_up, va_rf]
      · simp [updV, va_up, hq]
    · cases hr
  · cases hr

theorem v_alen (C : vC p s m args meth c D dA A cc nL own ret) {ti a : Nat} {ty : FieldType} {K : Int32 → Option ρ} (ht : (vTy dA)[ti]? = some (dA ti, ty)) (hd : decode cc pc = .ok (.arraylength, 1)) (kk : ∀ x, vO p l e R s m args below meth c D dA A nL rd Q k n h sz lv (pc + 1) (.int x :: st) (K x)) : vO p l e R s m args below meth c D dA A nL rd Q k n h sz lv (pc) (.ref a :: st) (alen h a ti K) := by
  intro r hr H locs ls hh hz hS hJ hl
  unfold alen at hr
  split at hr
  · rename_i y hy
    split at hr
    · rename_i hc
      obtain ⟨t', y⟩ := y
      subst hc
      exact va_alen (D := D) C.1 C.2.1 C.2.2.2.2.2.1 (hh.one hy) 0 _ rfl ht rfl hd (kk _ r hr H locs ls hh hz hS hJ hl)
    · cases hr
  · cases hr

/-- a new cell: its address is the heap's size -/
def nw {β : Type} (h : Hp) (sz : Nat) (x : xE) (K : Hp → Option β) : Option β := K (va_up h sz (some x))
theorem v_new (C : vC p s m args meth c D dA A cc nL own ret) {ci index : Nat} {Cn : String} {T : u_T} {N : Nat} {fs : List Value} {K : Hp → Option ρ} (hc : vwCl[ci]? = some (Cn, T, N)) (hin : ∀ w ∈ u_ws Cn T N, w ∈ gW) (ty0 : Nat → FieldType) (hty : ∀ k, k < N → parseFieldDescriptor (T k).2.2.1 = some (ty0 k)) (hcl : Cond.classLink own index Cn ∈ gW) (hinst : Cond.instantiable Cn N ∈ gW) (hini : Cond.initialized Cn ∈ gW) (hfs : ∀ j, j < N → defaultValue (ty0 j) = vp_V fs j) (hd : decode cc pc = .ok (.new index, 3)) (kk : ∀ h, vO p l e R s m args below meth c D dA A nL False Q (k + 1) (n + N) h (sz + 1) lv (pc + 3) (.ref sz :: st) (K h)) : vO p l e R s m args below meth c D dA A nL False Q k n h sz lv (pc) (st) (gd (k + 1 ≤ R.cells ∧ n + N ≤ R.slots) (nw h sz (.inr (ci, fs)) K)) := by
  refine v_gd fun hR => ?_
  intro r hr H locs ls hh hz hS hJ hl
  subst hz
  have hts := C.2.2.2.2.1
  have hKn := C.2.2.2.2.2.1.1 ci _ hc
  refine W.newcK C.1 C.2.1 C.2.2.2.1 (hts _ hcl) (hts _ hinst) (hts _ hini) rfl hd hR.1 hR.2 hKn.2.1 rfl fun H1 kC hkC e1 z1 o1 => ?_
  exact kk _ r hr H1 locs ls (hh.push rfl (C.2.2.2.2.2.2.1 _ hS.1) ⟨_, hc, (u_born ty0 hts hin hKn hkC e1 hty).to hfs⟩ o1) z1 ⟨Nat.le_trans hS.1 (by omega), fun x h1 h2 => (o1 x (Nat.lt_of_lt_of_le h1 hS.1)).trans (hS.2.1 x h1 h2), hS.2.2⟩ (fun f => f.elim) hl

theorem v_newaI (C : vC p s m args meth c D dA A cc nL own ret) {ti : Nat} {x : Int32} {K : Hp → Option ρ} (ht : (vTy dA)[ti]? = some (dA ti, .int)) (harr : Cond.arrayClass (.int) ∈ gW) (hd : decode cc pc = .ok (.newarray .int, 2)) (kk : ∀ h, vO p l e R s m args below meth c D dA A nL False Q (k + 1) (n + x.toNatClampNeg) h (sz + 1) lv (pc + 2) (.ref sz :: st) (K h)) : vO p l e R s m args below meth c D dA A nL False Q k n h sz lv (pc) (.int x :: st) (gd ((0 ≤ x.toInt ∧ x.toInt ≤ 65536) ∧ k + 1 ≤ R.cells ∧ n + x.toNatClampNeg ≤ R.slots) (nw h sz (.inl (ti, x.toNatClampNeg, .inl (fun _ => 0))) K)) := by
  refine v_gd fun hR => ?_
  obtain ⟨⟨hx0, hx1⟩, hR1, hR2⟩ := hR
  intro r hr H locs ls hh hz hS hJ hl
  subst hz
  have hn : ¬ x < 0 := fun q => by
    have := Int32.lt_iff_toInt_lt.mp q
    simp at this
    omega
  have hb : x.toNatClampNeg * componentBytes (.int) ≤ 536870912 := by
    have e1 : x.toNatClampNeg ≤ 65536 := by show x.toInt.toNat ≤ 65536; omega
    have e2 : componentBytes (.int) ≤ 8 := by decide
    exact Nat.le_trans (Nat.mul_le_mul e1 e2) (by decide)
  refine va_newaK C.1 C.2.1 (atype := .int) (C.2.2.2.2.1 _ harr) rfl hd rfl hn rfl hb hR1 hR2 rfl fun H1 cA e1 z1 o1 hAr hNm => ?_
  have hcA : cA = dA ti := by
    have h2 : s.vm.findClass ("[" ++ (FieldType.int).toString) = some (dA ti) := (C.2.2.2.2.2.1.2 ti _ ht).2
    exact Option.some.inj (hNm.symm.trans h2)
  subst hcA
  exact kk _ r hr H1 locs ls (hh.push rfl (C.2.2.2.2.2.2.1 _ hS.1) (show H1[_]? = some (vp_cell _ _) from e1) o1) z1 ⟨Nat.le_trans hS.1 (by omega), fun x h1 h2 => (o1 x (Nat.lt_of_lt_of_le h1 hS.1)).trans (hS.2.1 x h1 h2), hS.2.2⟩ (fun f => f.elim) hl

theorem v_newaZ (C : vC p s m args meth c D dA A cc nL own ret) {ti : Nat} {x : Int32} {K : Hp → Option ρ} (ht : (vTy dA)[ti]? = some (dA ti, .boolean)) (harr : Cond.arrayClass (.boolean) ∈ gW) (hd : decode cc pc = .ok (.newarray .boolean, 2)) (kk : ∀ h, vO p l e R s m args below meth c D dA A nL False Q (k + 1) (n + x.toNatClampNeg) h (sz + 1) lv (pc + 2) (.ref sz :: st) (K h)) : vO p l e R s m args below meth c D dA A nL False Q k n h sz lv (pc) (.int x :: st) (gd ((0 ≤ x.toInt ∧ x.toInt ≤ 65536) ∧ k + 1 ≤ R.cells ∧ n + x.toNatClampNeg ≤ R.slots) (nw h sz (.inl (ti, x.toNatClampNeg, .inl (fun _ => 0))) K)) := by
  refine v_gd fun hR => ?_
  obtain ⟨⟨hx0, hx1⟩, hR1, hR2⟩ := hR
  intro r hr H locs ls hh hz hS hJ hl
  subst hz
  have hn : ¬ x < 0 := fun q => by
    have := Int32.lt_iff_toInt_lt.mp q
    simp at this
    omega
  have hb : x.toNatClampNeg * componentBytes (.boolean) ≤ 536870912 := by
    have e1 : x.toNatClampNeg ≤ 65536 := by show x.toInt.toNat ≤ 65536; omega
    have e2 : componentBytes (.boolean) ≤ 8 := by decide
    exact Nat.le_trans (Nat.mul_le_mul e1 e2) (by decide)
  refine va_newaK C.1 C.2.1 (atype := .boolean) (C.2.2.2.2.1 _ harr) rfl hd rfl hn rfl hb hR1 hR2 rfl fun H1 cA e1 z1 o1 hAr hNm => ?_
  have hcA : cA = dA ti := by
    have h2 : s.vm.findClass ("[" ++ (FieldType.boolean).toString) = some (dA ti) := (C.2.2.2.2.2.1.2 ti _ ht).2
    exact Option.some.inj (hNm.symm.trans h2)
  subst hcA
  exact kk _ r hr H1 locs ls (hh.push rfl (C.2.2.2.2.2.2.1 _ hS.1) (show H1[_]? = some (vp_cell _ _) from e1) o1) z1 ⟨Nat.le_trans hS.1 (by omega), fun x h1 h2 => (o1 x (Nat.lt_of_lt_of_le h1 hS.1)).trans (hS.2.1 x h1 h2), hS.2.2⟩ (fun f => f.elim) hl

theorem v_newaL (C : vC p s m args meth c D dA A cc nL own ret) {ti : Nat} {x : Int32} {K : Hp → Option ρ} (ht : (vTy dA)[ti]? = some (dA ti, .long)) (harr : Cond.arrayClass (.long) ∈ gW) (hd : decode cc pc = .ok (.newarray .long, 2)) (kk : ∀ h, vO p l e R s m args below meth c D dA A nL False Q (k + 1) (n + x.toNatClampNeg) h (sz + 1) lv (pc + 2) (.ref sz :: st) (K h)) : vO p l e R s m args below meth c D dA A nL False Q k n h sz lv (pc) (.int x :: st) (gd ((0 ≤ x.toInt ∧ x.toInt ≤ 65536) ∧ k + 1 ≤ R.cells ∧ n + x.toNatClampNeg ≤ R.slots) (nw h sz (.inl (ti, x.toNatClampNeg, .inr (.inl (fun _ => 0)))) K)) := by
  refine v_gd fun hR => ?_
  obtain ⟨⟨hx0, hx1⟩, hR1, hR2⟩ := hR
  intro r hr H locs ls hh hz hS hJ hl
  subst hz
  have hn : ¬ x < 0 := fun q => by
    have := Int32.lt_iff_toInt_lt.mp q
    simp at this
    omega
  have hb : x.toNatClampNeg * componentBytes (.long) ≤ 536870912 := by
    have e1 : x.toNatClampNeg ≤ 65536 := by show x.toInt.toNat ≤ 65536; omega
    have e2 : componentBytes (.long) ≤ 8 := by decide
    exact Nat.le_trans (Nat.mul_le_mul e1 e2) (by decide)
  refine va_newaK C.1 C.2.1 (atype := .long) (C.2.2.2.2.1 _ harr) rfl hd rfl hn rfl hb hR1 hR2 rfl fun H1 cA e1 z1 o1 hAr hNm => ?_
  have hcA : cA = dA ti := by
    have h2 : s.vm.findClass ("[" ++ (FieldType.long).toString) = some (dA ti) := (C.2.2.2.2.2.1.2 ti _ ht).2
    exact Option.some.inj (hNm.symm.trans h2)
  subst hcA
  exact kk _ r hr H1 locs ls (hh.push rfl (C.2.2.2.2.2.2.1 _ hS.1) (show H1[_]? = some (vp_cell _ _) from e1) o1) z1 ⟨Nat.le_trans hS.1 (by omega), fun x h1 h2 => (o1 x (Nat.lt_of_lt_of_le h1 hS.1)).trans (hS.2.1 x h1 h2), hS.2.2⟩ (fun f => f.elim) hl

theorem v_newq (C : vC p s m args meth c D dA A cc nL own ret) {ti index : Nat} {x : Int32} {Cn : String} {K : Hp → Option ρ} (ht : (vTy dA)[ti]? = some (dA ti, .object Cn)) (hcl : Cond.classLink own index Cn ∈ gW) (hover : va_AO Cn s) (hd : decode cc pc = .ok (.anewarray index, 3)) (kk : ∀ h, vO p l e R s m args below meth c D dA A nL False Q (k + 1) (n + x.toNatClampNeg) h (sz + 1) lv (pc + 3) (.ref sz :: st) (K h)) : vO p l e R s m args below meth c D dA A nL False Q k n h sz lv (pc) (.int x :: st) (gd ((0 ≤ x.toInt ∧ x.toInt ≤ 65536) ∧ k + 1 ≤ R.cells ∧ n + x.toNatClampNeg ≤ R.slots) (nw h sz (.inl (ti, x.toNatClampNeg, .inr (.inr (.inr (.inr (fun _ => none)))))) K)) := by
  refine v_gd fun hR => ?_
  obtain ⟨⟨hx0, hx1⟩, hR1, hR2⟩ := hR
  intro r hr H locs ls hh hz hS hJ hl
  subst hz
  have hn : ¬ x < 0 := fun q => by
    have := Int32.lt_iff_toInt_lt.mp q
    simp at this
    omega
  have hb : x.toNatClampNeg * 4 ≤ 536870912 := by
    have e1 : x.toNatClampNeg ≤ 65536 := by show x.toInt.toNat ≤ 65536; omega
    omega
  refine W.anew C.1 C.2.1 C.2.2.2.1 (C.2.2.2.2.1 _ hcl) (va_AO.use hover) rfl hd rfl hn hb hR1 hR2 fun cA kA comp f1 f2 f3 f4 => ?_
  generalize hH1 : H.push ({ cls := cA, slots := Array.replicate x.toNatClampNeg .null, vm := .none } : Cell) = H1
  have z1 : H1.size = H.size + 1 := by rw [← hH1, Array.size_push]
  have e1 : H1[H.size]? = some (arrV cA x.toNatClampNeg (fun _ => .null)) := by rw [← hH1, Array.getElem?_push_size, ← arrV_new]
  have o1 : ∀ q : Nat, q < H.size → H1[q]? = H[q]? := fun q hq => by rw [← hH1, Array.getElem?_push, if_neg (Nat.ne_of_lt hq)]
  have hcA : cA = dA ti := by
    obtain ⟨_, _, -, -, -, h2⟩ := (C.2.2.2.2.2.1.2 ti _ ht).2
    exact Option.some.inj (f1.symm.trans h2)
  subst hcA
  exact kk _ r hr H1 locs ls (hh.push rfl (C.2.2.2.2.2.2.1 _ hS.1) (show H1[_]? = some (vp_cell _ _) from e1) o1) z1 ⟨Nat.le_trans hS.1 (by omega), fun x h1 h2 => (o1 x (Nat.lt_of_lt_of_le h1 hS.1)).trans (hS.2.1 x h1 h2), hS.2.2⟩ (fun f => f.elim) hl

theorem v_copy (C : vC p s m args meth c D dA A cc nL own ret) {ti index a b : Nat} {sp dp x : Int32} {K : Hp → Option ρ} (ht : (vTy dA)[ti]? = some (dA ti, .int)) (hlink : Cond.methodLink own index arraycopyName ∈ gW) (hnat : Cond.native arraycopyName ∈ gW) (hstat : Cond.static arraycopyName ∈ gW) (hini : Cond.initialized "java/lang/System" ∈ gW) (hframes : 1 ≤ R.frames) (hlocals : (st.map fun v => v.category).sum + (nativeFrameWords "java/lang/System" "arraycopy" 5 + 11) ≤ R.locals) (hd : decode cc pc = .ok (.invokestatic index, 3)) (kk : ∀ h, vO p l e R s m args below meth c D dA A nL False Q k n h sz lv (pc + 3) (st) (K h)) : vO p l e R s m args below meth c D dA A nL False Q k n h sz lv (pc) (.int x :: .int dp :: .ref b :: .int sp :: .ref a :: st) (cpI h a ti sp b dp x K) := by
  intro r hr H locs ls hh hz hS hJ hl
  unfold cpI at hr
  split at hr
  · rename_i y z hy hz2
    split at hr
    · rename_i hg
      obtain ⟨⟨⟨g1, g2⟩, g3⟩, g4, g5⟩ := hg
      have hts := C.2.2.2.2.1
      have neg : ∀ w : Int32, 0 ≤ w.toInt → ¬ w < 0 := fun w hw q => by
        have := Int32.lt_iff_toInt_lt.mp q
        simp at this
        omega
      have h1 := neg sp g1
      have h2 := neg dp g2
      have h3 := neg x g3
      have t1 : (sp.toNatClampNeg : Int) = sp.toInt := Int.toNat_of_nonneg g1
      have t2 : (dp.toNatClampNeg : Int) = dp.toInt := Int.toNat_of_nonneg g2
      have t3 : (x.toNatClampNeg : Int) = x.toInt := Int.toNat_of_nonneg g3
      have ea := gA_some hy
      have eb := gA_some hz2
      intro T hT X
      have hc0 : H[a]? = some (vp_cell (dA ti) (y.1, .inl y.2)) := (hh a _ ea).1
      have hc1 : H[b]? = some (vp_cell (dA ti) (z.1, .inl z.2)) := (hh b _ eb).1
      obtain ⟨-, k0, hk0, cm0, hkk0⟩ := (C.2.2.2.2.2.1.2 ti _ ht).1 y.1 (fun j => .int (y.2 j))
      obtain ⟨-, k1, hk1, cm1, hkk1⟩ := (C.2.2.2.2.2.1.2 ti _ ht).1 z.1 (fun j => .int (z.2 j))
      obtain ⟨vm', X', step⟩ := X.arraycopy C.1 C.2.2.2.1 (hts _ hlink) (hts _ hnat) (hts _ hstat) (hts _ hini) (src := a) (dst := b) (cs := vp_cell (dA ti) (y.1, .inl y.2)) (cd := vp_cell (dA ti) (z.1, .inl z.2)) (srcPos := sp) (destPos := dp) (n := x) (by rw [hT]; exact hc0) (by rw [hT]; exact hc1)
        (fun _ h => by cases h) (fun _ h => by cases h) (fun h => by cases h) (fun h => by cases h) hk0 hk1 hkk0 hkk1 (by rfl) h1 h2 h3
        (by show ¬ _ > ((arrV (dA ti) y.1 (fun j => .int (y.2 j))).slots.size : Int); rw [arrV_size]; omega)
        (by show ¬ _ > ((arrV (dA ti) z.1 (fun j => .int (z.2 j))).slots.size : Int); rw [arrV_size]; omega)
        (fun vm₁ _ i hi => by
          have e : (vp_cell (dA ti) (y.1, .inl y.2)).slots.getD (sp.toNatClampNeg + i) .null = .int (y.2 (sp.toNatClampNeg + i)) := by
            show (arrV (dA ti) y.1 (fun j => .int (y.2 j))).slots.getD _ _ = _
            rw [Array.getD_eq_getD_getElem?, arrV_read _ _ (by omega)]
            rfl
          refine ⟨?_, ?_⟩
          · rw [e]
            rfl
          · rw [e]
            exact trivial)
        (g := F0 m pc ls (.int x :: .int dp :: .ref b :: .int sp :: .ref a :: st)) rfl (by rw [C.2.2.1]; exact hl.1) (rest := st) rfl (by rw [C.2.1]; exact hd) hframes (by show 2 * 0 + _ + _ ≤ _; omega)
      have e1 : copied (vp_cell (dA ti) (y.1, .inl y.2)) (vp_cell (dA ti) (z.1, .inl z.2)) sp dp x = vp_cell (dA ti) (z.1, .inl (va_cpy y.2 z.2 sp.toNatClampNeg dp.toNatClampNeg x.toNatClampNeg)) := va_copied (fun z => .int z) (dA ti) (dA ti) y.2 z.2 (by omega)
      rw [e1] at X' step
      have hlt : b < H.size := (Array.getElem?_eq_some_iff.mp hc1).1
      have hheap : ((T.setVm vm').setCell b (vp_cell (dA ti) (z.1, .inl (va_cpy y.2 z.2 sp.toNatClampNeg dp.toNatClampNeg x.toNatClampNeg)))).heap = H.setIfInBounds b (vp_cell (dA ti) (z.1, .inl (va_cpy y.2 z.2 sp.toNatClampNeg dp.toNatClampNeg x.toNatClampNeg))) := by rw [← hT]; rfl
      have oq : ∀ q : Nat, q ≠ b → (H.setIfInBounds b (vp_cell (dA ti) (z.1, .inl (va_cpy y.2 z.2 sp.toNatClampNeg dp.toNatClampNeg x.toNatClampNeg))))[q]? = H[q]? := fun q hq => by simp [Array.getElem?_setIfInBounds, Ne.symm hq]
      obtain ⟨t, a1, b1⟩ := kk _ r hr _ _ ls (hh.set eb (show (H.setIfInBounds b _)[b]? = some (vp_cell _ _) by simp [Array.getElem?_setIfInBounds, hlt]) oq) (by simp; exact hz) ⟨by simp; exact hS.1, fun q g1 g2 => by
          rw [oq q (fun e => g2 (by rw [e]; exact (hh b _ eb).2))]
          exact hS.2.1 q g1 g2, fun q hq => by
          rcases List.mem_append.mp hq with h | h
          · exact hS.2.2 q h
          · obtain ⟨w, -, hw⟩ := List.mem_map.mp h
            rw [← hw]
            exact (hh b _ eb).2⟩ (fun f => f.elim) hl _ hheap X'
      exact ⟨t, step t a1, b1⟩
    · cases hr
  · cases hr

theorem v_mmax (C : vC p s m args meth c D dA A cc nL own ret) {index : Nat} {x y : Int32} (hlink : Cond.methodLink own index Lib.Math.max.name ∈ gW) (hstat : Cond.static Lib.Math.max.name ∈ gW) (hini : Cond.initialized "java/lang/Math" ∈ gW) (hcode : Cond.code Lib.Math.max.name Lib.Math.max.code 2 (some .int) ∈ gW) (hframes : 1 ≤ R.frames) (hlocals : (st.map fun v => v.category).sum + 13 ≤ R.locals) (hcs : k ≤ R.cells ∧ n ≤ R.slots) (hd : decode cc pc = .ok (.invokestatic index, 3)) (kk : vO p l e R s m args below meth c D dA A nL rd Q k n h sz lv (pc + 3) (.int (if x < y then y else x) :: st) o) : vO p l e R s m args below meth c D dA A nL rd Q k n h sz lv (pc) (.int y :: .int x :: st) o :=
  fun r hr H locs ls hh hz hS hJ hl => va_mmax C.1 C.2.1 (by rw [C.2.2.1]; exact hl.1.symm) C.2.2.2.1 (C.2.2.2.2.1 _ hlink) (C.2.2.2.2.1 _ hstat) (C.2.2.2.2.1 _ hini) (C.2.2.2.2.1 _ hcode) hframes hlocals hcs.1 hcs.2 hd (kk r hr H locs ls hh hz hS hJ hl)

theorem v_mmin (C : vC p s m args meth c D dA A cc nL own ret) {index : Nat} {x y : Int32} (hlink : Cond.methodLink own index Lib.Math.min.name ∈ gW) (hstat : Cond.static Lib.Math.min.name ∈ gW) (hini : Cond.initialized "java/lang/Math" ∈ gW) (hcode : Cond.code Lib.Math.min.name Lib.Math.min.code 2 (some .int) ∈ gW) (hframes : 1 ≤ R.frames) (hlocals : (st.map fun v => v.category).sum + 13 ≤ R.locals) (hcs : k ≤ R.cells ∧ n ≤ R.slots) (hd : decode cc pc = .ok (.invokestatic index, 3)) (kk : vO p l e R s m args below meth c D dA A nL rd Q k n h sz lv (pc + 3) (.int (if y < x then y else x) :: st) o) : vO p l e R s m args below meth c D dA A nL rd Q k n h sz lv (pc) (.int y :: .int x :: st) o :=
  fun r hr H locs ls hh hz hS hJ hl => va_mmin C.1 C.2.1 (by rw [C.2.2.1]; exact hl.1.symm) C.2.2.2.1 (C.2.2.2.2.1 _ hlink) (C.2.2.2.2.1 _ hstat) (C.2.2.2.2.1 _ hini) (C.2.2.2.2.1 _ hcode) hframes hlocals hcs.1 hcs.2 hd (kk r hr H locs ls hh hz hS hJ hl)

theorem v_objInit (C : vC p s m args meth c D dA A cc nL own ret) {index a : Nat} (hlink : Cond.methodLink own index objectInit ∈ gW) (hinst : Cond.instanceMethod objectInit ∈ gW) (hcode : Cond.code objectInit ⟨#[0xb1]⟩ 1 none ∈ gW) (hd : decode cc pc = .ok (.invokespecial index, 3)) (hframes : 1 ≤ R.frames) (hlocals : (st.map fun v => v.category).sum + 12 ≤ R.locals) (kk : vO p l e R s m args below meth c D dA A nL rd Q k n h sz lv (pc + 3) (st) o) : vO p l e R s m args below meth c D dA A nL rd Q k n h sz lv (pc) (.ref a :: st) o := by
  intro r hr H locs ls hh hz hS hJ hl
  refine W.objInit C.1 C.2.1 C.2.2.2.1 (C.2.2.2.2.1 _ hlink) (C.2.2.2.2.1 _ hinst) (C.2.2.2.2.1 _ hcode) rfl (by rw [C.2.2.1]; exact hl.1) rfl hd hframes (by show 2 * 0 + _ + 12 ≤ _; omega) ?_
  exact kk r hr H locs ls hh hz hS hJ hl

end VL
/-- a method's start, end, room and contract -/
def vPc (D : va_G) (dA : Nat → ClassId) (av : List Value) (h : Hp) (sz : Nat) : Array Value → State → Prop := va_Pc av (fun U => U.heap.size = sz ∧ hI D dA (fun _ => True) h U.heap ∧ va_K D vwCl (vTy dA) U ∧ vNx U)
def vQc (rd : Prop) (h : Hp) (sz : Nat) (D : va_G) (dA : Nat → ClassId) (h1 : Hp) (sz1 : Nat) (rv : Option Value) : Array Value → State → Outcome → State → Prop := fun _ st oc t => oc = .returned rv ∧ hI D dA (vA h sz) h1 t.heap ∧ t.heap.size = sz1 ∧ va_F (vA h sz) st t ∧ (rd → t.heap = st.heap)
/-- the cells that may change: none, where the method only reads -/
def vAr (rd : Prop) (h : Hp) (sz : Nat) : Nat → Prop := fun q => ¬ rd ∧ vA h sz q
def vR (d mc ms : Nat) : Room := { frames := d, cells := mc, slots := ms, locals := 40 * d }
def vM (rd : Prop) (l : Launch) (y : MethodName) (ws : List Cond) (d : Nat) (av : List Value) (h : Hp) (sz : Nat) (h1 : Hp) (sz1 : Nat) (rv : Option Value) (mc ms : Nat) : Prop := ∀ (D : va_G) (dA : Nat → ClassId), Met l y ws (vR d mc ms) (vPc D dA av h sz) (vQc rd h sz D dA h1 sz1 rv) mc ms (vAr rd h sz)
theorem vM.of {rd : Prop} {l : Launch} {y : MethodName} {ws : List Cond} {d : Nat} {av : List Value} {h : Hp} {sz : Nat} {h1 : Hp} {sz1 : Nat} {rv : Option Value} {mc ms : Nat} {cc : ByteArray} {nL : Nat} {ret : Option FieldType} (hy : plainName y.cls = true) (hw : ws = Cond.code y cc nL ret :: gW) (hlen : (lg_sl av).length ≤ nL)
    (body : ∀ (p : Program) (e : Env) (s : State) (m : MethodId) (args : Array Value) (below : List Frame) (meth : Method) (c : Code) (D : va_G) (dA : Nat → ClassId), vC p s m args meth c D dA (vA h sz) cc nL y.cls ret → meth.name = y.name →
      vS p l e (vR d mc ms) s m args below meth c D dA (vA h sz) nL rd (MQ below (vQc rd h sz D dA h1 sz1 rv) args s mc ms (vAr rd h sz)) 0 0 h sz (lv_args 0 av) 0 []) : vM rd l y ws d av h sz h1 sz1 rv mc ms := by
  intro D dA
  refine Met.ofW (cc := cc) (maxL := nL) (ret := ret) hy hw ?_
  intro p e s m args below meth c s₁ B hml hv
  obtain ⟨rfl, hsz, hP, hK, hN⟩ := hv
  have hC : vC p s m av.toArray meth c D dA (vA h sz) cc nL y.cls ret := ⟨B.exec, B.bytes, hml, findClass_of_methodNamed B.named, fun w hw' => atoms_spec (ws := ws) B.pre w (by rw [hw]; exact List.mem_cons_of_mem _ hw'), hK, fun q hq => Or.inr (by rw [← hsz]; exact hq), B.notSynchronized, B.returns, hN⟩
  have hb := body p e s m _ below meth c D dA hC (name_of_methodNamed B.named B.method).1 s.heap [] _ (hP.self sz) hsz va_S.rf (fun _ => ⟨rfl, rfl⟩) (lv_entry av hlen)
  rw [lg_entry_eq]
  exact hb
theorem vAr_locs {rd : Prop} {h : Hp} {sz : Nat} {locs : List Loc} (hJ : rd → locs = []) (hS : ∀ l ∈ locs, vA h sz l.base) : ∀ q ∈ locs, vAr rd h sz q.base := fun q hq => ⟨fun hrd => absurd hq (by rw [hJ hrd]; exact List.not_mem_nil), hS q hq⟩
section VRet
variable {ρ : Type} {p : Program} {l : Launch} {e : Env} {R : Room} {s : State} {m : MethodId} {args : Array Value} {below : List Frame} {meth : Method} {c : Code} {D : va_G} {dA : Nat → ClassId} {h0 : Hp} {sz0 : Nat} {cc : ByteArray} {nL : Nat} {own : String} {rd : Prop} {Q : ρ → State → Prop} {k n mc ms : Nat} {h : Hp} {sz : Nat} {lv : List (Nat × Value)} {pc : Nat} {x : ρ}
theorem v_iret (C : vC p s m args meth c D dA (vA h0 sz0) cc nL own (some .int)) (hd : decode cc pc = .ok (.ireturn, 1)) {v : Int32} (hQ : Q x = MQ below (vQc rd h0 sz0 D dA h sz (some (.int v))) args s k n (vAr rd h0 sz0)) : vO p l e R s m args below meth c D dA (vA h0 sz0) nL rd Q k n h sz lv pc [.int v] (some x) := by
  intro r hr H locs ls hh hz hS hJ hl
  cases hr
  rw [hQ]
  exact W.iret (v := v) C.1 C.2.1 C.2.2.2.2.2.2.2.2.1 (fun t ht hW => ⟨rfl, by rw [ht]; exact hh, by rw [ht]; exact hz, hS.F ht, fun hrd => by rw [ht]; exact (hJ hrd).1⟩) (vAr_locs (fun hrd => (hJ hrd).2) hS.2.2) hd C.2.2.2.2.2.2.2.1
theorem v_zret (C : vC p s m args meth c D dA (vA h0 sz0) cc nL own (some .boolean)) (hd : decode cc pc = .ok (.ireturn, 1)) {v : Int32} (hQ : Q x = MQ below (vQc rd h0 sz0 D dA h sz (some (.int v))) args s k n (vAr rd h0 sz0)) : vO p l e R s m args below meth c D dA (vA h0 sz0) nL rd Q k n h sz lv pc [.int v] (gd (v = 0 ∨ v = 1) (some x)) := by
  refine v_gd fun hv => ?_
  intro r hr H locs ls hh hz hS hJ hl
  cases hr
  rw [hQ]
  exact W.zret (v := v) (ty := .boolean) C.1 C.2.1 C.2.2.2.2.2.2.2.2.1 (by rcases hv with rfl | rfl <;> rfl) (fun t ht hW => ⟨rfl, by rw [ht]; exact hh, by rw [ht]; exact hz, hS.F ht, fun hrd => by rw [ht]; exact (hJ hrd).1⟩) (vAr_locs (fun hrd => (hJ hrd).2) hS.2.2) hd C.2.2.2.2.2.2.2.1
theorem v_vret (C : vC p s m args meth c D dA (vA h0 sz0) cc nL own none) (hd : decode cc pc = .ok (.return_, 1)) (hQ : Q x = MQ below (vQc rd h0 sz0 D dA h sz none) args s k n (vAr rd h0 sz0)) : vO p l e R s m args below meth c D dA (vA h0 sz0) nL rd Q k n h sz lv pc [] (some x) := by
  intro r hr H locs ls hh hz hS hJ hl
  cases hr
  rw [hQ]
  exact W.vret C.1 C.2.1 C.2.2.2.2.2.2.2.2.1 (fun t ht hW => ⟨rfl, by rw [ht]; exact hh, by rw [ht]; exact hz, hS.F ht, fun hrd => by rw [ht]; exact (hJ hrd).1⟩) (vAr_locs (fun hrd => (hJ hrd).2) hS.2.2) hd C.2.2.2.2.2.2.2.1
theorem v_vretW (C : vC p s m args meth c D dA (vA h0 sz0) cc nL own none) (hd : decode cc pc = .ok (.return_, 1)) (hQ : Q x = MQ below (vQc rd h0 sz0 D dA h sz none) args s mc ms (vAr rd h0 sz0)) : vO p l e R s m args below meth c D dA (vA h0 sz0) nL rd Q k n h sz lv pc [] (gd (k ≤ mc ∧ n ≤ ms) (some x)) := by
  refine v_gd fun hv => ?_
  intro r hr H locs ls hh hz hS hJ hl
  cases hr
  rw [hQ]
  refine W.widen (k := mc) (n := ms) hv.1 hv.2 ?_
  exact W.vret C.1 C.2.1 C.2.2.2.2.2.2.2.2.1 (fun t ht hW => ⟨rfl, by rw [ht]; exact hh, by rw [ht]; exact hz, hS.F ht, fun hrd => by rw [ht]; exact (hJ hrd).1⟩) (vAr_locs (fun hrd => (hJ hrd).2) hS.2.2) hd C.2.2.2.2.2.2.2.1
theorem v_aret {rt : FieldType} (C : vC p s m args meth c D dA (vA h0 sz0) cc nL own (some rt)) (hrt : (∃ n, rt = .object n) ∨ ∃ t, rt = .array t) (hd : decode cc pc = .ok (.areturn, 1)) {v : Nat} (hQ : Q x = MQ below (vQc rd h0 sz0 D dA h sz (some (.ref v))) args s k n (vAr rd h0 sz0)) : vO p l e R s m args below meth c D dA (vA h0 sz0) nL rd Q k n h sz lv pc [.ref v] (some x) := by
  intro r hr H locs ls hh hz hS hJ hl
  cases hr
  rw [hQ]
  exact W.aret C.1 C.2.1 C.2.2.2.2.2.2.2.2.1 hrt (Or.inr ⟨v, rfl⟩) (fun t ht hW => ⟨rfl, by rw [ht]; exact hh, by rw [ht]; exact hz, hS.F ht, fun hrd => by rw [ht]; exact (hJ hrd).1⟩) (vAr_locs (fun hrd => (hJ hrd).2) hS.2.2) hd C.2.2.2.2.2.2.2.1
end VRet
section VCall
variable {ρ : Type} {p : Program} {l : Launch} {e : Env} {R : Room} {s : State} {m : MethodId} {args : Array Value} {below : List Frame} {meth : Method} {c : Code} {D : va_G} {dA : Nat → ClassId} {A : Nat → Prop} {cc : ByteArray} {nL : Nat} {own : String} {ret : Option FieldType} {rd rdc : Prop} {Q : ρ → State → Prop} {k n mc ms : Nat} {h h1 : Hp} {sz sz1 : Nat} {lv : List (Nat × Value)} {pc index : Nat} {st st0 : List Value} {o : Option ρ} {rv : Option Value} {y : MethodName} {ws ws' : List Cond} {d maxL N : Nat} {bytes : ByteArray} {rt : Option FieldType} {As : List Value} {b : Nat}
/-- behind a call -/
theorem v_run (C : vC p s m args meth c D dA A cc nL own ret) (hrd : rd → rdc) {a : Array Value}
    (hrun : ∀ (H : Heap) (locs : List Loc) (ls : Array Slot), hI D dA A h H → H.size = sz → lv_has ls nL lv → va_Run p l e R s m args below meth c H locs k n mc ms (F0 m pc ls st0) st (vQc rdc h sz D dA h1 sz1 rv a) (vAr rdc h sz))
    (kk : vO p l e R s m args below meth c D dA A nL rd Q (k + mc) (n + ms) h1 sz1 lv (pc + 3) (rv.toList ++ st) o) : vO p l e R s m args below meth c D dA A nL rd Q k n h sz lv pc st0 o := by
  intro r hr H locs ls hh hz hS hJ hl T hT X
  obtain ⟨v, st₀, t, T', L, g0, X', hL, e1, e2, ⟨hv, hP, hz1, hF, hsm⟩, stp⟩ := hrun H locs ls hh hz hl T hT X
  cases hv
  have hAA : ∀ q, vA h sz q → A q := fun q hq => by
    rcases hq with ⟨x, hx⟩ | hq
    · exact (hh q x hx).2
    · exact C.2.2.2.2.2.2.1 q (Nat.le_trans hS.1 (by rw [hz]; exact hq))
  obtain ⟨z1, k1⟩ := hF
  rw [g0] at z1 k1
  obtain ⟨t2, a1, b1⟩ := kk r hr T'.heap (locs ++ L) ls (by rw [e1]; exact hP.weaken (fun q _ _ hq => hAA q hq)) (by rw [e1]; exact hz1)
    ⟨Nat.le_trans hS.1 (by rw [e1]; exact z1), fun q h1 h2 => by
      rw [e1, k1 q (Nat.lt_of_lt_of_le h1 hS.1) (fun z => h2 (hAA q z))]
      exact hS.2.1 q h1 h2, fun q hq => by
      rcases List.mem_append.mp hq with h | h
      · exact hS.2.2 q h
      · exact hAA _ (hL q h).2⟩ (fun hq => by
      have hc := hrd hq
      refine ⟨by rw [e1, hsm hc, g0]; exact (hJ hq).1, ?_⟩
      rw [(hJ hq).2]
      exact List.eq_nil_iff_forall_not_mem.mpr (fun x hx => (hL x hx).1 hc)) hl T' rfl X'
  exact ⟨t2, stp t2 a1, b1⟩
theorem vPc_blind {av : List Value} : FrameBlind (vPc D dA av h sz) := fun a U g mk q => by
  obtain ⟨q0, q1, qP, qK, qN⟩ := q
  exact ⟨q0, q1, qP, va_K.moved (u := U) (U := U.calling g mk a) (Vm.Alike.refl U.vm) qK, vNx_same rfl qN⟩
theorem vPc_at (C : vC p s m args meth c D dA A cc nL own ret) {H : Heap} (hh : hI D dA A h H) (hz : H.size = sz) {av : List Value} : ∀ U : State, U.heap = H → s.WarmedH U.vm → vPc D dA av h sz av.toArray U := fun U hU hW =>
  ⟨rfl, by rw [hU]; exact hz, by rw [hU]; exact hh.weaken (fun _ _ _ _ => trivial), va_K.moved hW.alike C.2.2.2.2.2.1, vNx_warm hW C.2.2.2.2.2.2.2.2.2⟩

theorem good_ws (hw : ws = Cond.code y bytes maxL rt :: gW) (hc : Cond.code y bytes maxL rt ∈ gW) : GoodIn gW ws := by
  intro w h
  rw [hw] at h
  rcases List.mem_cons.mp h with rfl | h
  · exact ⟨hc, good_of_word (List.mem_filter.mp hc).2⟩
  · exact ⟨h, good_of_word (List.mem_filter.mp h).2⟩

theorem v_callV (C : vC p s m args meth c D dA A cc nL own ret) (hrd : rd → rdc) (hM : vM rdc l y ws d (.ref b :: As) h sz h1 sz1 rv mc ms) (hw : ws = Cond.code y bytes maxL rt :: gW) (hc : Cond.code y bytes maxL rt ∈ gW) (hini : Cond.initialized y.cls ∈ gW) (hyd : y.cls ≠ "java/lang/invoke/MethodHandle" ∧ y.cls ≠ "java/lang/invoke/VarHandle" ∧ (parseMethodDescriptor y.desc).map (fun d => d.parameters.length) = some N) (hR : d + 1 ≤ R.frames ∧ 8 + (maxL + 11) + 40 * d ≤ R.locals) (hN : As.length = N) (hstk : st0 = As.reverse ++ .ref b :: st) (hwd : (st.map fun v => v.category).sum ≤ 8) (hf : k + mc ≤ R.cells ∧ n + ms ≤ R.slots) (hlk : Cond.methodLink own index y ∈ gW) (him : Cond.instanceMethod y ∈ gW) (hsl : Cond.selects y.cls y y ∈ gW) {ci : Nat} {q : vw_C} (hcl : vwCl[ci]? = some q) (hq : q.1 = y.cls) (hO : isO h b ci = true) (hd : decode cc pc = .ok (.invokevirtual index, 3)) (kk : vO p l e R s m args below meth c D dA A nL rd Q (k + mc) (n + ms) h1 sz1 lv (pc + 3) (rv.toList ++ st) o) : vO p l e R s m args below meth c D dA A nL rd Q k n h sz lv pc st0 o :=
  v_run C hrd (mc := mc) (ms := ms) (fun H locs ls hh hz hl => va_runV (C := y.cls) (As := As) (rest := st) ⟨C.1, C.2.1, C.2.2.1, C.2.2.2.1, C.2.2.2.2.1⟩ (hM D dA) ⟨(callB_of N C.2.2.2.2.1 (good_ws hw hc) hw rfl rfl (C.2.2.2.2.1 _ hini) (C.2.2.2.2.1 _ hlk) hyd hR), C.2.2.2.2.1 _ him, C.2.2.2.2.1 _ hsl⟩ ⟨vPc_blind, by obtain ⟨fs, e0⟩ := isO_some hO; have hrv := va_recv C.2.2.2.2.2.1 (hh.one e0) hcl (q0 := 0) rfl; rw [hq] at hrv; exact hrv, vPc_at C hh hz⟩ rfl hN hl.1 hstk (lv_room hwd) hd hf) kk

theorem v_callV0 (C : vC p s m args meth c D dA A cc nL own ret) (hrd : rd → rdc) (hM : vM rdc l y ws d (.ref b :: As) h sz h1 sz1 rv 0 0) (hw : ws = Cond.code y bytes maxL rt :: gW) (hc : Cond.code y bytes maxL rt ∈ gW) (hini : Cond.initialized y.cls ∈ gW) (hyd : y.cls ≠ "java/lang/invoke/MethodHandle" ∧ y.cls ≠ "java/lang/invoke/VarHandle" ∧ (parseMethodDescriptor y.desc).map (fun d => d.parameters.length) = some N) (hR : d + 1 ≤ R.frames ∧ 8 + (maxL + 11) + 40 * d ≤ R.locals) (hN : As.length = N) (hstk : st0 = As.reverse ++ .ref b :: st) (hwd : (st.map fun v => v.category).sum ≤ 8) (hf : k ≤ R.cells ∧ n ≤ R.slots) (hlk : Cond.methodLink own index y ∈ gW) (him : Cond.instanceMethod y ∈ gW) (hsl : Cond.selects y.cls y y ∈ gW) {ci : Nat} {q : vw_C} (hcl : vwCl[ci]? = some q) (hq : q.1 = y.cls) (hO : isO h b ci = true) (hd : decode cc pc = .ok (.invokevirtual index, 3)) (kk : vO p l e R s m args below meth c D dA A nL rd Q k n h1 sz1 lv (pc + 3) (rv.toList ++ st) o) : vO p l e R s m args below meth c D dA A nL rd Q k n h sz lv pc st0 o :=
  v_run C hrd (mc := 0) (ms := 0) (fun H locs ls hh hz hl => va_runV (C := y.cls) (As := As) (rest := st) ⟨C.1, C.2.1, C.2.2.1, C.2.2.2.1, C.2.2.2.2.1⟩ (hM D dA) ⟨(callB_of N C.2.2.2.2.1 (good_ws hw hc) hw rfl rfl (C.2.2.2.2.1 _ hini) (C.2.2.2.2.1 _ hlk) hyd hR), C.2.2.2.2.1 _ him, C.2.2.2.2.1 _ hsl⟩ ⟨vPc_blind, by obtain ⟨fs, e0⟩ := isO_some hO; have hrv := va_recv C.2.2.2.2.2.1 (hh.one e0) hcl (q0 := 0) rfl; rw [hq] at hrv; exact hrv, vPc_at C hh hz⟩ rfl hN hl.1 hstk (lv_room hwd) hd hf) kk

theorem v_callS (C : vC p s m args meth c D dA A cc nL own ret) (hrd : rd → rdc) (hM : vM rdc l y ws d As h sz h1 sz1 rv mc ms) (hw : ws = Cond.code y bytes maxL rt :: gW) (hc : Cond.code y bytes maxL rt ∈ gW) (hini : Cond.initialized y.cls ∈ gW) (hyd : y.cls ≠ "java/lang/invoke/MethodHandle" ∧ y.cls ≠ "java/lang/invoke/VarHandle" ∧ (parseMethodDescriptor y.desc).map (fun d => d.parameters.length) = some N) (hR : d + 1 ≤ R.frames ∧ 8 + (maxL + 11) + 40 * d ≤ R.locals) (hN : As.length = N) (hstk : st0 = As.reverse ++ st) (hwd : (st.map fun v => v.category).sum ≤ 8) (hf : k + mc ≤ R.cells ∧ n + ms ≤ R.slots) (hlk : Cond.methodLink own index y ∈ gW) (hst : Cond.static y ∈ gW) (hd : decode cc pc = .ok (.invokestatic index, 3)) (kk : vO p l e R s m args below meth c D dA A nL rd Q (k + mc) (n + ms) h1 sz1 lv (pc + 3) (rv.toList ++ st) o) : vO p l e R s m args below meth c D dA A nL rd Q k n h sz lv pc st0 o :=
  v_run C hrd (mc := mc) (ms := ms) (fun H locs ls hh hz hl => va_runS (As := As) (rest := st) ⟨C.1, C.2.1, C.2.2.1, C.2.2.2.1, C.2.2.2.2.1⟩ (hM D dA) ⟨(callB_of N C.2.2.2.2.1 (good_ws hw hc) hw rfl rfl (C.2.2.2.2.1 _ hini) (C.2.2.2.2.1 _ hlk) hyd hR), C.2.2.2.2.1 _ hst⟩ ⟨vPc_blind, vPc_at C hh hz⟩ rfl hN hl.1 hstk (lv_room hwd) hd hf) kk

theorem v_callS0 (C : vC p s m args meth c D dA A cc nL own ret) (hrd : rd → rdc) (hM : vM rdc l y ws d As h sz h1 sz1 rv 0 0) (hw : ws = Cond.code y bytes maxL rt :: gW) (hc : Cond.code y bytes maxL rt ∈ gW) (hini : Cond.initialized y.cls ∈ gW) (hyd : y.cls ≠ "java/lang/invoke/MethodHandle" ∧ y.cls ≠ "java/lang/invoke/VarHandle" ∧ (parseMethodDescriptor y.desc).map (fun d => d.parameters.length) = some N) (hR : d + 1 ≤ R.frames ∧ 8 + (maxL + 11) + 40 * d ≤ R.locals) (hN : As.length = N) (hstk : st0 = As.reverse ++ st) (hwd : (st.map fun v => v.category).sum ≤ 8) (hf : k ≤ R.cells ∧ n ≤ R.slots) (hlk : Cond.methodLink own index y ∈ gW) (hst : Cond.static y ∈ gW) (hd : decode cc pc = .ok (.invokestatic index, 3)) (kk : vO p l e R s m args below meth c D dA A nL rd Q k n h1 sz1 lv (pc + 3) (rv.toList ++ st) o) : vO p l e R s m args below meth c D dA A nL rd Q k n h sz lv pc st0 o :=
  v_run C hrd (mc := 0) (ms := 0) (fun H locs ls hh hz hl => va_runS (As := As) (rest := st) ⟨C.1, C.2.1, C.2.2.1, C.2.2.2.1, C.2.2.2.2.1⟩ (hM D dA) ⟨(callB_of N C.2.2.2.2.1 (good_ws hw hc) hw rfl rfl (C.2.2.2.2.1 _ hini) (C.2.2.2.2.1 _ hlk) hyd hR), C.2.2.2.2.1 _ hst⟩ ⟨vPc_blind, vPc_at C hh hz⟩ rfl hN hl.1 hstk (lv_room hwd) hd hf) kk

theorem v_callSN (C : vC p s m args meth c D dA A cc nL own ret) (hrd : rd → rdc) (hM : vM rdc l y ws d As h sz h1 sz1 rv mc ms) (hw : ws = Cond.code y bytes maxL rt :: gW) (hc : Cond.code y bytes maxL rt ∈ gW) (hini : Cond.initialized y.cls ∈ gW) (hyd : y.cls ≠ "java/lang/invoke/MethodHandle" ∧ y.cls ≠ "java/lang/invoke/VarHandle" ∧ (parseMethodDescriptor y.desc).map (fun d => d.parameters.length) = some N) (hR : d + 1 ≤ R.frames ∧ 8 + (maxL + 11) + 40 * d ≤ R.locals) (hN : As.length = N) (hstk : st0 = As.reverse ++ st) (hwd : (st.map fun v => v.category).sum ≤ 8) (hf : k + mc ≤ R.cells ∧ n + ms ≤ R.slots) {host : String} (hlk : va_Nw (.methodLinkNest own index y host) s) (hst : Cond.static y ∈ gW) (hd : decode cc pc = .ok (.invokestatic index, 3)) (kk : vO p l e R s m args below meth c D dA A nL rd Q (k + mc) (n + ms) h1 sz1 lv (pc + 3) (rv.toList ++ st) o) : vO p l e R s m args below meth c D dA A nL rd Q k n h sz lv pc st0 o :=
  v_run C hrd (mc := mc) (ms := ms) (fun H locs ls hh hz hl => va_runSN (As := As) (rest := st) ⟨C.1, C.2.1, C.2.2.1, C.2.2.2.1, C.2.2.2.2.1⟩ (hM D dA) ⟨(va_cnB N C.2.2.2.2.1 (good_ws hw hc) hw rfl rfl hlk (C.2.2.2.2.1 _ hini) hyd hR), C.2.2.2.2.1 _ hst, trivial⟩ ⟨vPc_blind, vPc_at C hh hz⟩ rfl hN hl.1 hstk (lv_room hwd) hd hf) kk

theorem v_callSN0 (C : vC p s m args meth c D dA A cc nL own ret) (hrd : rd → rdc) (hM : vM rdc l y ws d As h sz h1 sz1 rv 0 0) (hw : ws = Cond.code y bytes maxL rt :: gW) (hc : Cond.code y bytes maxL rt ∈ gW) (hini : Cond.initialized y.cls ∈ gW) (hyd : y.cls ≠ "java/lang/invoke/MethodHandle" ∧ y.cls ≠ "java/lang/invoke/VarHandle" ∧ (parseMethodDescriptor y.desc).map (fun d => d.parameters.length) = some N) (hR : d + 1 ≤ R.frames ∧ 8 + (maxL + 11) + 40 * d ≤ R.locals) (hN : As.length = N) (hstk : st0 = As.reverse ++ st) (hwd : (st.map fun v => v.category).sum ≤ 8) (hf : k ≤ R.cells ∧ n ≤ R.slots) {host : String} (hlk : va_Nw (.methodLinkNest own index y host) s) (hst : Cond.static y ∈ gW) (hd : decode cc pc = .ok (.invokestatic index, 3)) (kk : vO p l e R s m args below meth c D dA A nL rd Q k n h1 sz1 lv (pc + 3) (rv.toList ++ st) o) : vO p l e R s m args below meth c D dA A nL rd Q k n h sz lv pc st0 o :=
  v_run C hrd (mc := 0) (ms := 0) (fun H locs ls hh hz hl => va_runSN (As := As) (rest := st) ⟨C.1, C.2.1, C.2.2.1, C.2.2.2.1, C.2.2.2.2.1⟩ (hM D dA) ⟨(va_cnB N C.2.2.2.2.1 (good_ws hw hc) hw rfl rfl hlk (C.2.2.2.2.1 _ hini) hyd hR), C.2.2.2.2.1 _ hst, trivial⟩ ⟨vPc_blind, vPc_at C hh hz⟩ rfl hN hl.1 hstk (lv_room hwd) hd hf) kk

theorem v_callI (C : vC p s m args meth c D dA A cc nL own ret) (hrd : rd → rdc) (hM : vM rdc l y ws d (.ref b :: As) h sz h1 sz1 rv mc ms) (hw : ws = Cond.code y bytes maxL none :: gW) (hc : Cond.code y bytes maxL none ∈ gW) (hini : Cond.initialized y.cls ∈ gW) (hyd : y.cls ≠ "java/lang/invoke/MethodHandle" ∧ y.cls ≠ "java/lang/invoke/VarHandle" ∧ (parseMethodDescriptor y.desc).map (fun d => d.parameters.length) = some N) (hR : d + 1 ≤ R.frames ∧ 8 + (maxL + 11) + 40 * d ≤ R.locals) (hN : As.length = N) (hstk : st0 = As.reverse ++ .ref b :: st) (hwd : (st.map fun v => v.category).sum ≤ 8) (hf : k + mc ≤ R.cells ∧ n + ms ≤ R.slots) (hlk : Cond.methodLink own index y ∈ gW) (hnm : y.name = "<init>") (him : Cond.instanceMethod y ∈ gW) (hd : decode cc pc = .ok (.invokespecial index, 3)) (kk : vO p l e R s m args below meth c D dA A nL rd Q (k + mc) (n + ms) h1 sz1 lv (pc + 3) (rv.toList ++ st) o) : vO p l e R s m args below meth c D dA A nL rd Q k n h sz lv pc st0 o :=
  v_run C hrd (mc := mc) (ms := ms) (fun H locs ls hh hz hl => va_runI (As := As) (rest := st) ⟨C.1, C.2.1, C.2.2.1, C.2.2.2.1, C.2.2.2.2.1⟩ (hM D dA) ⟨(callB_of N C.2.2.2.2.1 (good_ws hw hc) hw rfl rfl (C.2.2.2.2.1 _ hini) (C.2.2.2.2.1 _ hlk) hyd hR), hnm, C.2.2.2.2.1 _ him⟩ ⟨vPc_blind, vPc_at C hh hz⟩ rfl hN hl.1 hstk (lv_room hwd) hd hf) kk

theorem v_callI0 (C : vC p s m args meth c D dA A cc nL own ret) (hrd : rd → rdc) (hM : vM rdc l y ws d (.ref b :: As) h sz h1 sz1 rv 0 0) (hw : ws = Cond.code y bytes maxL none :: gW) (hc : Cond.code y bytes maxL none ∈ gW) (hini : Cond.initialized y.cls ∈ gW) (hyd : y.cls ≠ "java/lang/invoke/MethodHandle" ∧ y.cls ≠ "java/lang/invoke/VarHandle" ∧ (parseMethodDescriptor y.desc).map (fun d => d.parameters.length) = some N) (hR : d + 1 ≤ R.frames ∧ 8 + (maxL + 11) + 40 * d ≤ R.locals) (hN : As.length = N) (hstk : st0 = As.reverse ++ .ref b :: st) (hwd : (st.map fun v => v.category).sum ≤ 8) (hf : k ≤ R.cells ∧ n ≤ R.slots) (hlk : Cond.methodLink own index y ∈ gW) (hnm : y.name = "<init>") (him : Cond.instanceMethod y ∈ gW) (hd : decode cc pc = .ok (.invokespecial index, 3)) (kk : vO p l e R s m args below meth c D dA A nL rd Q k n h1 sz1 lv (pc + 3) (rv.toList ++ st) o) : vO p l e R s m args below meth c D dA A nL rd Q k n h sz lv pc st0 o :=
  v_run C hrd (mc := 0) (ms := 0) (fun H locs ls hh hz hl => va_runI (As := As) (rest := st) ⟨C.1, C.2.1, C.2.2.1, C.2.2.2.1, C.2.2.2.2.1⟩ (hM D dA) ⟨(callB_of N C.2.2.2.2.1 (good_ws hw hc) hw rfl rfl (C.2.2.2.2.1 _ hini) (C.2.2.2.2.1 _ hlk) hyd hR), hnm, C.2.2.2.2.1 _ him⟩ ⟨vPc_blind, vPc_at C hh hz⟩ rfl hN hl.1 hstk (lv_room hwd) hd hf) kk

theorem v_callIN (C : vC p s m args meth c D dA A cc nL own ret) (hrd : rd → rdc) (hM : vM rdc l y ws d (.ref b :: As) h sz h1 sz1 rv mc ms) (hw : ws = Cond.code y bytes maxL none :: gW) (hc : Cond.code y bytes maxL none ∈ gW) (hini : Cond.initialized y.cls ∈ gW) (hyd : y.cls ≠ "java/lang/invoke/MethodHandle" ∧ y.cls ≠ "java/lang/invoke/VarHandle" ∧ (parseMethodDescriptor y.desc).map (fun d => d.parameters.length) = some N) (hR : d + 1 ≤ R.frames ∧ 8 + (maxL + 11) + 40 * d ≤ R.locals) (hN : As.length = N) (hstk : st0 = As.reverse ++ .ref b :: st) (hwd : (st.map fun v => v.category).sum ≤ 8) (hf : k + mc ≤ R.cells ∧ n + ms ≤ R.slots) {host : String} (hlk : va_Nw (.methodLinkNest own index y host) s) (hnm : y.name = "<init>") (him : Cond.instanceMethod y ∈ gW) (hd : decode cc pc = .ok (.invokespecial index, 3)) (kk : vO p l e R s m args below meth c D dA A nL rd Q (k + mc) (n + ms) h1 sz1 lv (pc + 3) (rv.toList ++ st) o) : vO p l e R s m args below meth c D dA A nL rd Q k n h sz lv pc st0 o :=
  v_run C hrd (mc := mc) (ms := ms) (fun H locs ls hh hz hl => va_runIN (As := As) (rest := st) ⟨C.1, C.2.1, C.2.2.1, C.2.2.2.1, C.2.2.2.2.1⟩ (hM D dA) ⟨(va_cnB N C.2.2.2.2.1 (good_ws hw hc) hw rfl rfl hlk (C.2.2.2.2.1 _ hini) hyd hR), hnm, C.2.2.2.2.1 _ him⟩ ⟨vPc_blind, vPc_at C hh hz⟩ rfl hN hl.1 hstk (lv_room hwd) hd hf) kk

theorem v_callIN0 (C : vC p s m args meth c D dA A cc nL own ret) (hrd : rd → rdc) (hM : vM rdc l y ws d (.ref b :: As) h sz h1 sz1 rv 0 0) (hw : ws = Cond.code y bytes maxL none :: gW) (hc : Cond.code y bytes maxL none ∈ gW) (hini : Cond.initialized y.cls ∈ gW) (hyd : y.cls ≠ "java/lang/invoke/MethodHandle" ∧ y.cls ≠ "java/lang/invoke/VarHandle" ∧ (parseMethodDescriptor y.desc).map (fun d => d.parameters.length) = some N) (hR : d + 1 ≤ R.frames ∧ 8 + (maxL + 11) + 40 * d ≤ R.locals) (hN : As.length = N) (hstk : st0 = As.reverse ++ .ref b :: st) (hwd : (st.map fun v => v.category).sum ≤ 8) (hf : k ≤ R.cells ∧ n ≤ R.slots) {host : String} (hlk : va_Nw (.methodLinkNest own index y host) s) (hnm : y.name = "<init>") (him : Cond.instanceMethod y ∈ gW) (hd : decode cc pc = .ok (.invokespecial index, 3)) (kk : vO p l e R s m args below meth c D dA A nL rd Q k n h1 sz1 lv (pc + 3) (rv.toList ++ st) o) : vO p l e R s m args below meth c D dA A nL rd Q k n h sz lv pc st0 o :=
  v_run C hrd (mc := 0) (ms := 0) (fun H locs ls hh hz hl => va_runIN (As := As) (rest := st) ⟨C.1, C.2.1, C.2.2.1, C.2.2.2.1, C.2.2.2.2.1⟩ (hM D dA) ⟨(va_cnB N C.2.2.2.2.1 (good_ws hw hc) hw rfl rfl hlk (C.2.2.2.2.1 _ hini) hyd hR), hnm, C.2.2.2.2.1 _ him⟩ ⟨vPc_blind, vPc_at C hh hz⟩ rfl hN hl.1 hstk (lv_room hwd) hd hf) kk

end VCall
