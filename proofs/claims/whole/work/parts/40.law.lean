def R_law : String := "AdaptiveTreesLaw"
def lw_P (b : Addr) (xs : List Int32) (args : Array Value) (s : State) : Prop := args = #[.ref b] ∧ s.IntsAt b xs ∧ xs.length ≤ 2561 ∧ (Jvm.Cond.and given_1 narrow_1).before args s = true
def lw_Q (_ : Array Value) (s : State) (o : Outcome) (t : State) : Prop := o = .returned (some (.int 1)) ∧ Framed s o t [] 601024 7293000
def lw_Z (below : List Frame) (a : Array Value) (s : State) : State → Prop := fun t => ∃ o, t.status = .running ∧ Ended t below o ∧ lw_Q a s o t
/-- the law's own end, with 1 on the stack, nothing written that was there before, its room as the claim has it -/
theorem lw_ret {p : Program} {l : Launch} {e : Env} {s : State} {m : MethodId} {below : List Frame} {meth : Method} {c : Code} {b : Nat} (hx : p.tables.exec = Jvm.exec) (hb : c.code = code) (hr : meth.sig.returnType = ret) (hlocks : meth.locks = false) {pc : Nat} {H : Heap} {ls : Array Slot} (hdg : decode code pc = .ok (.ireturn, 1)) : W p l e room_1 s m #[Value.ref b] below meth c H [] 601024 7293000 (lw_Z below #[Value.ref b] s) (F0 m pc ls [.int 1]) := by
  intro T hT X
  obtain ⟨fs, hret, hrun, hended, hW, hframe⟩ := X.leave (v := some (.int 1)) (hlocks := hlocks) (fun h => by rw [hr] at h; cases h)
  have hmeth' : T.vm.method? m = some meth := X.method'
  refine ⟨T.setFrames fs, ?_, .returned (some (.int 1)), hrun, hended, rfl, ⟨_, rfl⟩, hW, hframe⟩
  jvm_step X.here [X.here.top, hx, hb, hdg, hmeth', hr, ret, narrow_b1]
  (try refine ⟨rfl, ?_⟩); (try refine ⟨rfl, ?_⟩)
  first | (intro acts; rw [hret _ acts rfl rfl rfl]) | rw [hret _ _ rfl rfl rfl]
  exact Steps.refl _
/-- what holds at the law's entry: the machine, the code, the tables' words (any of lw_tbl by 'hts w (by decide +kernel)'), the script of L ints xs at the cell b, what the Statement gives of the start (any of its parts by flat_of_before) -/
def lw_At (p : Program) (s : State) (m : MethodId) (meth : Method) (c : Code) (b L : Nat) (xs : Nat → Int32) : Prop :=
  p.tables.exec = Jvm.exec ∧ c.code = code ∧ meth.sig.returnType = ret ∧ c.maxLocals = 7 ∧ s.vm.findClass R_law = some m.cls ∧ (∀ w ∈ lw_tbl, w.before #[Value.ref b] s = true) ∧ va_X b L xs s s.heap ∧ b < s.heap.size ∧ meth.locks = false ∧ (Jvm.Cond.and given_1 narrow_1).before #[Value.ref b] s = true
theorem dL_cell_0 : decode method_2_code 0 = .ok (.iload_n 1, 1) := by decide +kernel
theorem dL_cell_1 : decode method_2_code 1 = .ok (.aload_n 0, 1) := by decide +kernel
theorem dL_cell_2 : decode method_2_code 2 = .ok (.arraylength, 1) := by decide +kernel
theorem dL_cell_3 : decode method_2_code 3 = .ok (.if_icmp .ge 9, 3) := by decide +kernel
theorem dL_cell_6 : decode method_2_code 6 = .ok (.aload_n 0, 1) := by decide +kernel
theorem dL_cell_7 : decode method_2_code 7 = .ok (.iload_n 1, 1) := by decide +kernel
theorem dL_cell_8 : decode method_2_code 8 = .ok (.iaload, 1) := by decide +kernel
theorem dL_cell_9 : decode method_2_code 9 = .ok (.goto 4, 3) := by decide +kernel
theorem dL_cell_12 : decode method_2_code 12 = .ok (.iconst 0, 1) := by decide +kernel
theorem dL_cell_13 : decode method_2_code 13 = .ok (.ireturn, 1) := by decide +kernel
/-- the script is read -/
def ldS {β : Type} (xs : Nat → Int32) (L : Nat) (i : Int32) (K : Int32 → Option β) : Option β := if 0 ≤ i.toInt ∧ i.toInt < L then K (xs i.toNatClampNeg) else none
def cv0 (xs : Nat → Int32) (L : Nat) : Int32 := if Int32.ofNat L ≤ 0 then 0 else xs 0
section VLaw
variable {ρ : Type} {p : Program} {l : Launch} {e : Env} {R : Room} {s : State} {m : MethodId} {args : Array Value} {below : List Frame} {meth : Method} {c : Code} {D : va_G} {dA : Nat → ClassId} {A : Nat → Prop} {cc : ByteArray} {nL : Nat} {own : String} {ret : Option FieldType} {rd : Prop} {Q : ρ → State → Prop} {k n : Nat} {h : Hp} {sz : Nat} {lv lv' : List (Nat × Value)} {pc : Nat} {st : List Value} {o o1 o2 : Option ρ} {b L : Nat} {xs : Nat → Int32}
theorem v_sld (C : vC p s m args meth c D dA A cc nL own ret) (hX : va_X b L xs s s.heap) (hbl : b < s.heap.size) (hbA : ¬ A b) {i : Int32} {K : Int32 → Option ρ} (hd : decode cc pc = .ok (.iaload, 1)) (kk : ∀ x, vO p l e R s m args below meth c D dA A nL rd Q k n h sz lv (pc + 1) (.int x :: st) (K x)) : vO p l e R s m args below meth c D dA A nL rd Q k n h sz lv pc (.int i :: .ref b :: st) (ldS xs L i K) := by
  intro r hr H locs ls hh hz hS hJ hl
  unfold ldS at hr
  split at hr
  · rename_i hin
    exact va_sld C.1 C.2.1 hX hbl hbA hS (vp_in_iff.mpr hin) hd (kk _ r hr H locs ls hh hz hS hJ hl)
  · cases hr
theorem v_slen (C : vC p s m args meth c D dA A cc nL own ret) (hX : va_X b L xs s s.heap) (hbl : b < s.heap.size) (hbA : ¬ A b) (hd : decode cc pc = .ok (.arraylength, 1)) (kk : vO p l e R s m args below meth c D dA A nL rd Q k n h sz lv (pc + 1) (.int (Int32.ofNat L) :: st) o) : vO p l e R s m args below meth c D dA A nL rd Q k n h sz lv pc (.ref b :: st) o :=
  fun r hr H locs ls hh hz hS hJ hl => va_slen C.1 C.2.1 hX hbl hbA hS hd (kk r hr H locs ls hh hz hS hJ hl)
theorem v_lcmp (C : vC p s m args meth c D dA A cc nL own ret) {x y : Int64} (hd : decode cc pc = .ok (.lcmp, 1)) (kk : vO p l e R s m args below meth c D dA A nL rd Q k n h sz lv (pc + 1) (.int (lg_cmp x y) :: st) o) : vO p l e R s m args below meth c D dA A nL rd Q k n h sz lv pc (.long y :: .long x :: st) o :=
  fun r hr H locs ls hh hz hS hJ hl => W.lcmp C.1 C.2.1 hd (kk r hr H locs ls hh hz hS hJ hl)
/-- cell(script, 0) -/
theorem c_cell (l : Launch) (b L : Nat) (xs : Nat → Int32) : Met l yL_cell (Cond.code yL_cell method_2_code 2 (some .int) :: gW) (vR 0 0 0) (va_Pc [.ref b, .int 0] (fun U => va_X b L xs U U.heap)) (fun _ st oc t => oc = .returned (some (.int (cv0 xs L))) ∧ t.heap = st.heap) 0 0 (fun _ => False) := by
  refine Met.ofW (cc := method_2_code) (maxL := 2) (ret := some .int) (by decide) rfl ?_
  intro p e s m args below meth c s₁ B hml hv
  obtain ⟨rfl, hX⟩ := hv
  have hx := B.exec
  have hb := B.bytes
  have hr := B.returns
  have hlocks := B.notSynchronized
  have hbl : b < s.heap.size := by
    obtain ⟨scr, h1, -⟩ := hX
    exact (Array.getElem?_eq_some_iff.mp h1).1
  have hS : va_S (fun _ => False) s.heap s.heap [] := va_S.rf
  have hl := lv_entry ([.ref b, .int 0]) (n := 2) (Nat.le_of_ble_eq_true rfl)
  rw [lg_entry_eq]
  generalize (lg_sl ([.ref b, .int 0]) ++ List.replicate (2 - (lg_sl ([.ref b, .int 0])).length) Slot.unset).toArray = ls at hl ⊢
  have hl : lv_has ls 2 [(0, .ref b), (1, .int 0)] := hl
  refine lv_iload_n hx hb dL_cell_0 rfl (lv_at hl 1 rfl) ?_
  refine lv_aload_n hx hb dL_cell_1 rfl (lv_at hl 0 rfl) ?_
  refine va_slen hx hb hX hbl (fun h => h) hS dL_cell_2 ?_
  refine lv_icmp_ge (tgt := 12) hx hb dL_cell_3 (by decide) (fun q => ?_) (fun q => ?_)
  · refine lv_iconst (v := 0) hx hb dL_cell_12 (by decide) ?_
    exact W.iret (v := 0) hx hb hr (fun t ht hW => ⟨by unfold cv0; rw [if_pos q], ht⟩) (fun _ h => by cases h) dL_cell_13
  · have hin : vp_in 0 L := by
      rw [vp_in_iff]
      refine ⟨by decide, ?_⟩
      rcases Nat.eq_zero_or_pos L with h0 | h0
      · subst h0; exact absurd (by decide) q
      · show (0 : Int) < L; omega
    refine lv_aload_n hx hb dL_cell_6 rfl (lv_at hl 0 rfl) ?_
    refine lv_iload_n hx hb dL_cell_7 rfl (lv_at hl 1 rfl) ?_
    refine va_sld hx hb hX hbl (fun h => h) hS hin dL_cell_8 ?_
    refine lv_goto (tgt := 13) hx hb dL_cell_9 (by decide) ?_
    exact W.iret hx hb hr (fun t ht hW => ⟨by unfold cv0; rw [if_neg q]; rfl, ht⟩) (fun _ h => by cases h) dL_cell_13
theorem v_cell {index : Nat} (C : vC p s m args meth c D dA A cc nL "AdaptiveTreesLaw" ret) (hX : va_X b L xs s s.heap) (hbl : b < s.heap.size) (hbA : ¬ A b) (hf : k ≤ R.cells ∧ n ≤ R.slots) (hlk : Cond.methodLink "AdaptiveTreesLaw" index yL_cell ∈ gW) (hst : Cond.static yL_cell ∈ gW) (hc : Cond.code yL_cell method_2_code 2 (some .int) ∈ gW) (hini : Cond.initialized "AdaptiveTreesLaw" ∈ gW) (hR : 1 ≤ R.frames ∧ 21 ≤ R.locals) (hwd : (st.map fun v => v.category).sum ≤ 8) (hd : decode cc pc = .ok (.invokestatic index, 3)) (kk : vO p l e R s m args below meth c D dA A nL rd Q k n h sz lv (pc + 3) (.int (cv0 xs L) :: st) o) : vO p l e R s m args below meth c D dA A nL rd Q k n h sz lv pc (.int 0 :: .ref b :: st) o := by
  intro r hr H locs ls hh hz hS hJ hl T hT X
  have hPre : PreS s H (va_Pc [.ref b, .int 0] (fun U => va_X b L xs U U.heap)) [.ref b, .int 0] := by
    refine ⟨fun a U g mk q => ⟨q.1, va_X.moved (u := U) (U := U.calling g mk a) (Vm.Alike.refl U.vm) q.2⟩, fun U hU hW => ⟨rfl, ?_⟩⟩
    show va_X b L xs U U.heap
    rw [hU]
    exact va_X.moved hW.alike (hX.kept (hS.2.1 b hbl hbA))
  obtain ⟨v, st₀, t, T', Lc, g0, X', hLc, e1, e2, ⟨hv, hhp⟩, stp⟩ := va_runS (As := [.ref b, .int 0]) (rest := st) (g := F0 m pc ls (.int 0 :: .ref b :: st)) ⟨C.1, C.2.1, C.2.2.1, C.2.2.2.1, C.2.2.2.2.1⟩ (c_cell l b L xs) ⟨callB_of 2 C.2.2.2.2.1 (good_ws rfl hc) rfl rfl rfl (C.2.2.2.2.1 _ hini) (C.2.2.2.2.1 _ hlk) (by decide +kernel) ⟨hR.1, hR.2⟩, C.2.2.2.2.1 _ hst⟩ hPre rfl rfl hl.1 rfl (lv_room hwd) hd hf T hT X
  cases hv
  have hH : T'.heap = H := by rw [e1, hhp, g0]
  obtain ⟨t2, a1, b1⟩ := kk r hr T'.heap (locs ++ Lc) ls (by rw [hH]; exact hh) (by rw [hH]; exact hz) (by
    rw [hH]
    exact ⟨hS.1, hS.2.1, fun q hq => by
      rcases List.mem_append.mp hq with h | h
      · exact hS.2.2 q h
      · exact (hLc q h).elim⟩) (fun hq => ⟨by rw [hH]; exact (hJ hq).1, by
      rw [(hJ hq).2]
      exact List.eq_nil_iff_forall_not_mem.mpr (fun x hx => (hLc x hx).elim)⟩) hl T' rfl X'
  exact ⟨t2, stp t2 a1, b1⟩
end VLaw
theorem v_lend {p : Program} {l : Launch} {e : Env} {s : State} {m : MethodId} {below : List Frame} {meth : Method} {c : Code} {D : va_G} {dA : Nat → ClassId} {own : String} {Q : Unit → State → Prop} {k n : Nat} {h : Hp} {sz : Nat} {lv : List (Nat × Value)} {pc : Nat} {b : Nat} (C : vC p s m #[Value.ref b] meth c D dA (fun q : Nat => s.heap.size ≤ q) code 7 own ret) (hQ : Q = fun _ => lw_Z below #[Value.ref b] s) (hd : decode code pc = .ok (.ireturn, 1)) : vO p l e room_1 s m #[Value.ref b] below meth c D dA (fun q : Nat => s.heap.size ≤ q) 7 False Q k n h sz lv pc [.int 1] (gd (k ≤ 601024 ∧ n ≤ 7293000) (some ())) := by
  refine v_gd fun hv => ?_
  intro r hr H locs ls hh hz hS hJ hl
  rw [hQ]
  refine va_forget (fun q hq => hS.2.2 q hq) ?_
  refine W.widen (k := 601024) (n := 7293000) hv.1 hv.2 ?_
  exact lw_ret C.1 C.2.1 C.2.2.2.2.2.2.2.2.1 C.2.2.2.2.2.2.2.1 hd
theorem dL_law_0 : decode code 0 = .ok (.new 8, 3) := by decide +kernel
theorem dL_law_3 : decode code 3 = .ok (.dup, 1) := by decide +kernel
theorem dL_law_4 : decode code 4 = .ok (.aload_n 0, 1) := by decide +kernel
theorem dL_law_5 : decode code 5 = .ok (.iconst 0, 1) := by decide +kernel
theorem dL_law_6 : decode code 6 = .ok (.invokestatic 15, 3) := by decide +kernel
theorem dL_law_9 : decode code 9 = .ok (.invokespecial 21, 3) := by decide +kernel
theorem dL_law_12 : decode code 12 = .ok (.astore_n 1, 1) := by decide +kernel
theorem dL_law_13 : decode code 13 = .ok (.new 24, 3) := by decide +kernel
theorem dL_law_16 : decode code 16 = .ok (.dup, 1) := by decide +kernel
theorem dL_law_17 : decode code 17 = .ok (.aload_n 0, 1) := by decide +kernel
theorem dL_law_18 : decode code 18 = .ok (.iconst 0, 1) := by decide +kernel
theorem dL_law_19 : decode code 19 = .ok (.invokestatic 15, 3) := by decide +kernel
theorem dL_law_22 : decode code 22 = .ok (.invokespecial 26, 3) := by decide +kernel
theorem dL_law_25 : decode code 25 = .ok (.astore_n 2, 1) := by decide +kernel
theorem dL_law_26 : decode code 26 = .ok (.iconst 1, 1) := by decide +kernel
theorem dL_law_27 : decode code 27 = .ok (.newarray .long, 2) := by decide +kernel
theorem dL_law_29 : decode code 29 = .ok (.astore_n 3, 1) := by decide +kernel
theorem dL_law_30 : decode code 30 = .ok (.iconst 1, 1) := by decide +kernel
theorem dL_law_31 : decode code 31 = .ok (.istore 4, 2) := by decide +kernel
theorem dL_law_33 : decode code 33 = .ok (.iload 4, 2) := by decide +kernel
theorem dL_law_35 : decode code 35 = .ok (.aload_n 0, 1) := by decide +kernel
theorem dL_law_36 : decode code 36 = .ok (.arraylength, 1) := by decide +kernel
theorem dL_law_37 : decode code 37 = .ok (.iconst 5, 1) := by decide +kernel
theorem dL_law_38 : decode code 38 = .ok (.isub, 1) := by decide +kernel
theorem dL_law_39 : decode code 39 = .ok (.if_icmp .gt 874, 3) := by decide +kernel
theorem dL_law_42 : decode code 42 = .ok (.aload_n 0, 1) := by decide +kernel
theorem dL_law_43 : decode code 43 = .ok (.iload 4, 2) := by decide +kernel
theorem dL_law_45 : decode code 45 = .ok (.iaload, 1) := by decide +kernel
theorem dL_law_46 : decode code 46 = .ok (.bipush 31, 2) := by decide +kernel
theorem dL_law_48 : decode code 48 = .ok (.iand, 1) := by decide +kernel
theorem dL_law_144 : decode code 144 = .ok (.aload_n 1, 1) := by decide +kernel
theorem dL_law_145 : decode code 145 = .ok (.aload_n 0, 1) := by decide +kernel
theorem dL_law_146 : decode code 146 = .ok (.iload 4, 2) := by decide +kernel
theorem dL_law_148 : decode code 148 = .ok (.iconst 1, 1) := by decide +kernel
theorem dL_law_149 : decode code 149 = .ok (.iadd, 1) := by decide +kernel
theorem dL_law_150 : decode code 150 = .ok (.iaload, 1) := by decide +kernel
theorem dL_law_151 : decode code 151 = .ok (.aload_n 0, 1) := by decide +kernel
theorem dL_law_152 : decode code 152 = .ok (.iload 4, 2) := by decide +kernel
theorem dL_law_154 : decode code 154 = .ok (.iconst 2, 1) := by decide +kernel
theorem dL_law_155 : decode code 155 = .ok (.iadd, 1) := by decide +kernel
theorem dL_law_156 : decode code 156 = .ok (.iaload, 1) := by decide +kernel
theorem dL_law_157 : decode code 157 = .ok (.invokevirtual 27, 3) := by decide +kernel
theorem dL_law_160 : decode code 160 = .ok (.aload_n 2, 1) := by decide +kernel
theorem dL_law_161 : decode code 161 = .ok (.aload_n 0, 1) := by decide +kernel
theorem dL_law_162 : decode code 162 = .ok (.iload 4, 2) := by decide +kernel
theorem dL_law_164 : decode code 164 = .ok (.iconst 1, 1) := by decide +kernel
theorem dL_law_165 : decode code 165 = .ok (.iadd, 1) := by decide +kernel
theorem dL_law_166 : decode code 166 = .ok (.iaload, 1) := by decide +kernel
theorem dL_law_167 : decode code 167 = .ok (.aload_n 0, 1) := by decide +kernel
theorem dL_law_168 : decode code 168 = .ok (.iload 4, 2) := by decide +kernel
theorem dL_law_170 : decode code 170 = .ok (.iconst 2, 1) := by decide +kernel
theorem dL_law_171 : decode code 171 = .ok (.iadd, 1) := by decide +kernel
theorem dL_law_172 : decode code 172 = .ok (.iaload, 1) := by decide +kernel
theorem dL_law_173 : decode code 173 = .ok (.invokevirtual 31, 3) := by decide +kernel
theorem dL_law_176 : decode code 176 = .ok (.if_icmp .eq 731, 3) := by decide +kernel
theorem dL_law_179 : decode code 179 = .ok (.iconst 0, 1) := by decide +kernel
theorem dL_law_180 : decode code 180 = .ok (.ireturn, 1) := by decide +kernel
theorem dL_law_181 : decode code 181 = .ok (.aload_n 1, 1) := by decide +kernel
theorem dL_law_182 : decode code 182 = .ok (.aload_n 0, 1) := by decide +kernel
theorem dL_law_183 : decode code 183 = .ok (.iload 4, 2) := by decide +kernel
theorem dL_law_185 : decode code 185 = .ok (.iconst 1, 1) := by decide +kernel
theorem dL_law_186 : decode code 186 = .ok (.iadd, 1) := by decide +kernel
theorem dL_law_187 : decode code 187 = .ok (.iaload, 1) := by decide +kernel
theorem dL_law_188 : decode code 188 = .ok (.invokevirtual 32, 3) := by decide +kernel
theorem dL_law_191 : decode code 191 = .ok (.aload_n 2, 1) := by decide +kernel
theorem dL_law_192 : decode code 192 = .ok (.aload_n 0, 1) := by decide +kernel
theorem dL_law_193 : decode code 193 = .ok (.iload 4, 2) := by decide +kernel
theorem dL_law_195 : decode code 195 = .ok (.iconst 1, 1) := by decide +kernel
theorem dL_law_196 : decode code 196 = .ok (.iadd, 1) := by decide +kernel
theorem dL_law_197 : decode code 197 = .ok (.iaload, 1) := by decide +kernel
theorem dL_law_198 : decode code 198 = .ok (.invokevirtual 36, 3) := by decide +kernel
theorem dL_law_201 : decode code 201 = .ok (.if_icmp .eq 706, 3) := by decide +kernel
theorem dL_law_204 : decode code 204 = .ok (.iconst 0, 1) := by decide +kernel
theorem dL_law_205 : decode code 205 = .ok (.ireturn, 1) := by decide +kernel
theorem dL_law_206 : decode code 206 = .ok (.aload_n 1, 1) := by decide +kernel
theorem dL_law_207 : decode code 207 = .ok (.aload_n 0, 1) := by decide +kernel
theorem dL_law_208 : decode code 208 = .ok (.iload 4, 2) := by decide +kernel
theorem dL_law_210 : decode code 210 = .ok (.iconst 1, 1) := by decide +kernel
theorem dL_law_211 : decode code 211 = .ok (.iadd, 1) := by decide +kernel
theorem dL_law_212 : decode code 212 = .ok (.iaload, 1) := by decide +kernel
theorem dL_law_213 : decode code 213 = .ok (.aload_n 0, 1) := by decide +kernel
theorem dL_law_214 : decode code 214 = .ok (.iload 4, 2) := by decide +kernel
theorem dL_law_216 : decode code 216 = .ok (.iconst 2, 1) := by decide +kernel
theorem dL_law_217 : decode code 217 = .ok (.iadd, 1) := by decide +kernel
theorem dL_law_218 : decode code 218 = .ok (.iaload, 1) := by decide +kernel
theorem dL_law_219 : decode code 219 = .ok (.invokevirtual 37, 3) := by decide +kernel
theorem dL_law_222 : decode code 222 = .ok (.aload_n 2, 1) := by decide +kernel
theorem dL_law_223 : decode code 223 = .ok (.aload_n 0, 1) := by decide +kernel
theorem dL_law_224 : decode code 224 = .ok (.iload 4, 2) := by decide +kernel
theorem dL_law_226 : decode code 226 = .ok (.iconst 1, 1) := by decide +kernel
theorem dL_law_227 : decode code 227 = .ok (.iadd, 1) := by decide +kernel
theorem dL_law_228 : decode code 228 = .ok (.iaload, 1) := by decide +kernel
theorem dL_law_229 : decode code 229 = .ok (.aload_n 0, 1) := by decide +kernel
theorem dL_law_230 : decode code 230 = .ok (.iload 4, 2) := by decide +kernel
theorem dL_law_232 : decode code 232 = .ok (.iconst 2, 1) := by decide +kernel
theorem dL_law_233 : decode code 233 = .ok (.iadd, 1) := by decide +kernel
theorem dL_law_234 : decode code 234 = .ok (.iaload, 1) := by decide +kernel
theorem dL_law_235 : decode code 235 = .ok (.invokevirtual 40, 3) := by decide +kernel
theorem dL_law_238 : decode code 238 = .ok (.if_icmp .eq 669, 3) := by decide +kernel
theorem dL_law_241 : decode code 241 = .ok (.iconst 0, 1) := by decide +kernel
theorem dL_law_242 : decode code 242 = .ok (.ireturn, 1) := by decide +kernel
theorem dL_law_243 : decode code 243 = .ok (.aload_n 1, 1) := by decide +kernel
theorem dL_law_244 : decode code 244 = .ok (.invokevirtual 41, 3) := by decide +kernel
theorem dL_law_247 : decode code 247 = .ok (.aload_n 2, 1) := by decide +kernel
theorem dL_law_248 : decode code 248 = .ok (.invokevirtual 45, 3) := by decide +kernel
theorem dL_law_251 : decode code 251 = .ok (.if_icmp .eq 656, 3) := by decide +kernel
theorem dL_law_254 : decode code 254 = .ok (.iconst 0, 1) := by decide +kernel
theorem dL_law_255 : decode code 255 = .ok (.ireturn, 1) := by decide +kernel
theorem dL_law_256 : decode code 256 = .ok (.aload_n 1, 1) := by decide +kernel
theorem dL_law_257 : decode code 257 = .ok (.aload_n 0, 1) := by decide +kernel
theorem dL_law_258 : decode code 258 = .ok (.iload 4, 2) := by decide +kernel
theorem dL_law_260 : decode code 260 = .ok (.iconst 1, 1) := by decide +kernel
theorem dL_law_261 : decode code 261 = .ok (.iadd, 1) := by decide +kernel
theorem dL_law_262 : decode code 262 = .ok (.iaload, 1) := by decide +kernel
theorem dL_law_263 : decode code 263 = .ok (.invokevirtual 46, 3) := by decide +kernel
theorem dL_law_266 : decode code 266 = .ok (.aload_n 2, 1) := by decide +kernel
theorem dL_law_267 : decode code 267 = .ok (.aload_n 0, 1) := by decide +kernel
theorem dL_law_268 : decode code 268 = .ok (.iload 4, 2) := by decide +kernel
theorem dL_law_270 : decode code 270 = .ok (.iconst 1, 1) := by decide +kernel
theorem dL_law_271 : decode code 271 = .ok (.iadd, 1) := by decide +kernel
theorem dL_law_272 : decode code 272 = .ok (.iaload, 1) := by decide +kernel
theorem dL_law_273 : decode code 273 = .ok (.invokevirtual 49, 3) := by decide +kernel
theorem dL_law_276 : decode code 276 = .ok (.if_icmp .eq 631, 3) := by decide +kernel
theorem dL_law_279 : decode code 279 = .ok (.iconst 0, 1) := by decide +kernel
theorem dL_law_280 : decode code 280 = .ok (.ireturn, 1) := by decide +kernel
theorem dL_law_281 : decode code 281 = .ok (.aload_n 1, 1) := by decide +kernel
theorem dL_law_282 : decode code 282 = .ok (.invokevirtual 50, 3) := by decide +kernel
theorem dL_law_285 : decode code 285 = .ok (.aload_n 2, 1) := by decide +kernel
theorem dL_law_286 : decode code 286 = .ok (.invokevirtual 53, 3) := by decide +kernel
theorem dL_law_289 : decode code 289 = .ok (.if_icmp .eq 618, 3) := by decide +kernel
theorem dL_law_292 : decode code 292 = .ok (.iconst 0, 1) := by decide +kernel
theorem dL_law_293 : decode code 293 = .ok (.ireturn, 1) := by decide +kernel
theorem dL_law_294 : decode code 294 = .ok (.aload_n 1, 1) := by decide +kernel
theorem dL_law_295 : decode code 295 = .ok (.aload_n 0, 1) := by decide +kernel
theorem dL_law_296 : decode code 296 = .ok (.iload 4, 2) := by decide +kernel
theorem dL_law_298 : decode code 298 = .ok (.iconst 1, 1) := by decide +kernel
theorem dL_law_299 : decode code 299 = .ok (.iadd, 1) := by decide +kernel
theorem dL_law_300 : decode code 300 = .ok (.iaload, 1) := by decide +kernel
theorem dL_law_301 : decode code 301 = .ok (.aload_n 0, 1) := by decide +kernel
theorem dL_law_302 : decode code 302 = .ok (.iload 4, 2) := by decide +kernel
theorem dL_law_304 : decode code 304 = .ok (.iconst 2, 1) := by decide +kernel
theorem dL_law_305 : decode code 305 = .ok (.iadd, 1) := by decide +kernel
theorem dL_law_306 : decode code 306 = .ok (.iaload, 1) := by decide +kernel
theorem dL_law_307 : decode code 307 = .ok (.ifCond .eq 7, 3) := by decide +kernel
theorem dL_law_310 : decode code 310 = .ok (.iconst 1, 1) := by decide +kernel
theorem dL_law_311 : decode code 311 = .ok (.goto 4, 3) := by decide +kernel
theorem dL_law_314 : decode code 314 = .ok (.iconst 0, 1) := by decide +kernel
theorem dL_law_315 : decode code 315 = .ok (.invokevirtual 54, 3) := by decide +kernel
theorem dL_law_318 : decode code 318 = .ok (.aload_n 2, 1) := by decide +kernel
theorem dL_law_319 : decode code 319 = .ok (.aload_n 0, 1) := by decide +kernel
theorem dL_law_320 : decode code 320 = .ok (.iload 4, 2) := by decide +kernel
theorem dL_law_322 : decode code 322 = .ok (.iconst 1, 1) := by decide +kernel
theorem dL_law_323 : decode code 323 = .ok (.iadd, 1) := by decide +kernel
theorem dL_law_324 : decode code 324 = .ok (.iaload, 1) := by decide +kernel
theorem dL_law_325 : decode code 325 = .ok (.aload_n 0, 1) := by decide +kernel
theorem dL_law_326 : decode code 326 = .ok (.iload 4, 2) := by decide +kernel
theorem dL_law_328 : decode code 328 = .ok (.iconst 2, 1) := by decide +kernel
theorem dL_law_329 : decode code 329 = .ok (.iadd, 1) := by decide +kernel
theorem dL_law_330 : decode code 330 = .ok (.iaload, 1) := by decide +kernel
theorem dL_law_331 : decode code 331 = .ok (.ifCond .eq 7, 3) := by decide +kernel
theorem dL_law_334 : decode code 334 = .ok (.iconst 1, 1) := by decide +kernel
theorem dL_law_335 : decode code 335 = .ok (.goto 4, 3) := by decide +kernel
theorem dL_law_338 : decode code 338 = .ok (.iconst 0, 1) := by decide +kernel
theorem dL_law_339 : decode code 339 = .ok (.invokevirtual 58, 3) := by decide +kernel
theorem dL_law_342 : decode code 342 = .ok (.if_icmp .eq 565, 3) := by decide +kernel
theorem dL_law_345 : decode code 345 = .ok (.iconst 0, 1) := by decide +kernel
theorem dL_law_346 : decode code 346 = .ok (.ireturn, 1) := by decide +kernel
theorem dL_law_347 : decode code 347 = .ok (.aload_n 1, 1) := by decide +kernel
theorem dL_law_348 : decode code 348 = .ok (.aload_n 0, 1) := by decide +kernel
theorem dL_law_349 : decode code 349 = .ok (.iload 4, 2) := by decide +kernel
theorem dL_law_351 : decode code 351 = .ok (.iconst 1, 1) := by decide +kernel
theorem dL_law_352 : decode code 352 = .ok (.iadd, 1) := by decide +kernel
theorem dL_law_353 : decode code 353 = .ok (.iaload, 1) := by decide +kernel
theorem dL_law_354 : decode code 354 = .ok (.invokevirtual 59, 3) := by decide +kernel
theorem dL_law_357 : decode code 357 = .ok (.aload_n 2, 1) := by decide +kernel
theorem dL_law_358 : decode code 358 = .ok (.aload_n 0, 1) := by decide +kernel
theorem dL_law_359 : decode code 359 = .ok (.iload 4, 2) := by decide +kernel
theorem dL_law_361 : decode code 361 = .ok (.iconst 1, 1) := by decide +kernel
theorem dL_law_362 : decode code 362 = .ok (.iadd, 1) := by decide +kernel
theorem dL_law_363 : decode code 363 = .ok (.iaload, 1) := by decide +kernel
theorem dL_law_364 : decode code 364 = .ok (.invokevirtual 62, 3) := by decide +kernel
theorem dL_law_367 : decode code 367 = .ok (.if_icmp .eq 540, 3) := by decide +kernel
theorem dL_law_370 : decode code 370 = .ok (.iconst 0, 1) := by decide +kernel
theorem dL_law_371 : decode code 371 = .ok (.ireturn, 1) := by decide +kernel
theorem dL_law_372 : decode code 372 = .ok (.aload_n 1, 1) := by decide +kernel
theorem dL_law_373 : decode code 373 = .ok (.invokevirtual 63, 3) := by decide +kernel
theorem dL_law_376 : decode code 376 = .ok (.aload_n 2, 1) := by decide +kernel
theorem dL_law_377 : decode code 377 = .ok (.invokevirtual 66, 3) := by decide +kernel
theorem dL_law_380 : decode code 380 = .ok (.if_icmp .eq 527, 3) := by decide +kernel
theorem dL_law_383 : decode code 383 = .ok (.iconst 0, 1) := by decide +kernel
theorem dL_law_384 : decode code 384 = .ok (.ireturn, 1) := by decide +kernel
theorem dL_law_385 : decode code 385 = .ok (.aload_n 1, 1) := by decide +kernel
theorem dL_law_386 : decode code 386 = .ok (.aload_n 0, 1) := by decide +kernel
theorem dL_law_387 : decode code 387 = .ok (.iload 4, 2) := by decide +kernel
theorem dL_law_389 : decode code 389 = .ok (.iconst 1, 1) := by decide +kernel
theorem dL_law_390 : decode code 390 = .ok (.iadd, 1) := by decide +kernel
theorem dL_law_391 : decode code 391 = .ok (.iaload, 1) := by decide +kernel
theorem dL_law_392 : decode code 392 = .ok (.aload_n 0, 1) := by decide +kernel
theorem dL_law_393 : decode code 393 = .ok (.iload 4, 2) := by decide +kernel
theorem dL_law_395 : decode code 395 = .ok (.iconst 2, 1) := by decide +kernel
theorem dL_law_396 : decode code 396 = .ok (.iadd, 1) := by decide +kernel
theorem dL_law_397 : decode code 397 = .ok (.iaload, 1) := by decide +kernel
theorem dL_law_398 : decode code 398 = .ok (.aload_n 0, 1) := by decide +kernel
theorem dL_law_399 : decode code 399 = .ok (.iload 4, 2) := by decide +kernel
theorem dL_law_401 : decode code 401 = .ok (.iconst 3, 1) := by decide +kernel
theorem dL_law_402 : decode code 402 = .ok (.iadd, 1) := by decide +kernel
theorem dL_law_403 : decode code 403 = .ok (.iaload, 1) := by decide +kernel
theorem dL_law_404 : decode code 404 = .ok (.invokevirtual 67, 3) := by decide +kernel
theorem dL_law_407 : decode code 407 = .ok (.aload_n 2, 1) := by decide +kernel
theorem dL_law_408 : decode code 408 = .ok (.aload_n 0, 1) := by decide +kernel
theorem dL_law_409 : decode code 409 = .ok (.iload 4, 2) := by decide +kernel
theorem dL_law_411 : decode code 411 = .ok (.iconst 1, 1) := by decide +kernel
theorem dL_law_412 : decode code 412 = .ok (.iadd, 1) := by decide +kernel
theorem dL_law_413 : decode code 413 = .ok (.iaload, 1) := by decide +kernel
theorem dL_law_414 : decode code 414 = .ok (.aload_n 0, 1) := by decide +kernel
theorem dL_law_415 : decode code 415 = .ok (.iload 4, 2) := by decide +kernel
theorem dL_law_417 : decode code 417 = .ok (.iconst 2, 1) := by decide +kernel
theorem dL_law_418 : decode code 418 = .ok (.iadd, 1) := by decide +kernel
theorem dL_law_419 : decode code 419 = .ok (.iaload, 1) := by decide +kernel
theorem dL_law_420 : decode code 420 = .ok (.aload_n 0, 1) := by decide +kernel
theorem dL_law_421 : decode code 421 = .ok (.iload 4, 2) := by decide +kernel
theorem dL_law_423 : decode code 423 = .ok (.iconst 3, 1) := by decide +kernel
theorem dL_law_424 : decode code 424 = .ok (.iadd, 1) := by decide +kernel
theorem dL_law_425 : decode code 425 = .ok (.iaload, 1) := by decide +kernel
theorem dL_law_426 : decode code 426 = .ok (.invokevirtual 71, 3) := by decide +kernel
theorem dL_law_429 : decode code 429 = .ok (.if_icmp .eq 478, 3) := by decide +kernel
theorem dL_law_432 : decode code 432 = .ok (.iconst 0, 1) := by decide +kernel
theorem dL_law_433 : decode code 433 = .ok (.ireturn, 1) := by decide +kernel
theorem dL_law_434 : decode code 434 = .ok (.aload_n 1, 1) := by decide +kernel
theorem dL_law_435 : decode code 435 = .ok (.aload_n 0, 1) := by decide +kernel
theorem dL_law_436 : decode code 436 = .ok (.iload 4, 2) := by decide +kernel
theorem dL_law_438 : decode code 438 = .ok (.iconst 1, 1) := by decide +kernel
theorem dL_law_439 : decode code 439 = .ok (.iadd, 1) := by decide +kernel
theorem dL_law_440 : decode code 440 = .ok (.iaload, 1) := by decide +kernel
theorem dL_law_441 : decode code 441 = .ok (.aload_n 0, 1) := by decide +kernel
theorem dL_law_442 : decode code 442 = .ok (.iload 4, 2) := by decide +kernel
theorem dL_law_444 : decode code 444 = .ok (.iconst 2, 1) := by decide +kernel
theorem dL_law_445 : decode code 445 = .ok (.iadd, 1) := by decide +kernel
theorem dL_law_446 : decode code 446 = .ok (.iaload, 1) := by decide +kernel
theorem dL_law_447 : decode code 447 = .ok (.aload_n 0, 1) := by decide +kernel
theorem dL_law_448 : decode code 448 = .ok (.iload 4, 2) := by decide +kernel
theorem dL_law_450 : decode code 450 = .ok (.iconst 3, 1) := by decide +kernel
theorem dL_law_451 : decode code 451 = .ok (.iadd, 1) := by decide +kernel
theorem dL_law_452 : decode code 452 = .ok (.iaload, 1) := by decide +kernel
theorem dL_law_453 : decode code 453 = .ok (.aload_n 0, 1) := by decide +kernel
theorem dL_law_454 : decode code 454 = .ok (.iload 4, 2) := by decide +kernel
theorem dL_law_456 : decode code 456 = .ok (.iconst 4, 1) := by decide +kernel
theorem dL_law_457 : decode code 457 = .ok (.iadd, 1) := by decide +kernel
theorem dL_law_458 : decode code 458 = .ok (.iaload, 1) := by decide +kernel
theorem dL_law_459 : decode code 459 = .ok (.invokevirtual 72, 3) := by decide +kernel
theorem dL_law_462 : decode code 462 = .ok (.aload_n 2, 1) := by decide +kernel
theorem dL_law_463 : decode code 463 = .ok (.aload_n 0, 1) := by decide +kernel
theorem dL_law_464 : decode code 464 = .ok (.iload 4, 2) := by decide +kernel
theorem dL_law_466 : decode code 466 = .ok (.iconst 1, 1) := by decide +kernel
theorem dL_law_467 : decode code 467 = .ok (.iadd, 1) := by decide +kernel
theorem dL_law_468 : decode code 468 = .ok (.iaload, 1) := by decide +kernel
theorem dL_law_469 : decode code 469 = .ok (.aload_n 0, 1) := by decide +kernel
theorem dL_law_470 : decode code 470 = .ok (.iload 4, 2) := by decide +kernel
theorem dL_law_472 : decode code 472 = .ok (.iconst 2, 1) := by decide +kernel
theorem dL_law_473 : decode code 473 = .ok (.iadd, 1) := by decide +kernel
theorem dL_law_474 : decode code 474 = .ok (.iaload, 1) := by decide +kernel
theorem dL_law_475 : decode code 475 = .ok (.aload_n 0, 1) := by decide +kernel
theorem dL_law_476 : decode code 476 = .ok (.iload 4, 2) := by decide +kernel
theorem dL_law_478 : decode code 478 = .ok (.iconst 3, 1) := by decide +kernel
theorem dL_law_479 : decode code 479 = .ok (.iadd, 1) := by decide +kernel
theorem dL_law_480 : decode code 480 = .ok (.iaload, 1) := by decide +kernel
theorem dL_law_481 : decode code 481 = .ok (.aload_n 0, 1) := by decide +kernel
theorem dL_law_482 : decode code 482 = .ok (.iload 4, 2) := by decide +kernel
theorem dL_law_484 : decode code 484 = .ok (.iconst 4, 1) := by decide +kernel
theorem dL_law_485 : decode code 485 = .ok (.iadd, 1) := by decide +kernel
theorem dL_law_486 : decode code 486 = .ok (.iaload, 1) := by decide +kernel
theorem dL_law_487 : decode code 487 = .ok (.invokevirtual 75, 3) := by decide +kernel
theorem dL_law_490 : decode code 490 = .ok (.if_icmp .eq 417, 3) := by decide +kernel
theorem dL_law_493 : decode code 493 = .ok (.iconst 0, 1) := by decide +kernel
theorem dL_law_494 : decode code 494 = .ok (.ireturn, 1) := by decide +kernel
theorem dL_law_495 : decode code 495 = .ok (.aload_n 1, 1) := by decide +kernel
theorem dL_law_496 : decode code 496 = .ok (.aload_n 0, 1) := by decide +kernel
theorem dL_law_497 : decode code 497 = .ok (.iload 4, 2) := by decide +kernel
theorem dL_law_499 : decode code 499 = .ok (.iconst 1, 1) := by decide +kernel
theorem dL_law_500 : decode code 500 = .ok (.iadd, 1) := by decide +kernel
theorem dL_law_501 : decode code 501 = .ok (.iaload, 1) := by decide +kernel
theorem dL_law_502 : decode code 502 = .ok (.aload_n 0, 1) := by decide +kernel
theorem dL_law_503 : decode code 503 = .ok (.iload 4, 2) := by decide +kernel
theorem dL_law_505 : decode code 505 = .ok (.iconst 2, 1) := by decide +kernel
theorem dL_law_506 : decode code 506 = .ok (.iadd, 1) := by decide +kernel
theorem dL_law_507 : decode code 507 = .ok (.iaload, 1) := by decide +kernel
theorem dL_law_508 : decode code 508 = .ok (.aload_n 0, 1) := by decide +kernel
theorem dL_law_509 : decode code 509 = .ok (.iload 4, 2) := by decide +kernel
theorem dL_law_511 : decode code 511 = .ok (.iconst 3, 1) := by decide +kernel
theorem dL_law_512 : decode code 512 = .ok (.iadd, 1) := by decide +kernel
theorem dL_law_513 : decode code 513 = .ok (.iaload, 1) := by decide +kernel
theorem dL_law_514 : decode code 514 = .ok (.invokevirtual 76, 3) := by decide +kernel
theorem dL_law_517 : decode code 517 = .ok (.aload_n 2, 1) := by decide +kernel
theorem dL_law_518 : decode code 518 = .ok (.aload_n 0, 1) := by decide +kernel
theorem dL_law_519 : decode code 519 = .ok (.iload 4, 2) := by decide +kernel
theorem dL_law_521 : decode code 521 = .ok (.iconst 1, 1) := by decide +kernel
theorem dL_law_522 : decode code 522 = .ok (.iadd, 1) := by decide +kernel
theorem dL_law_523 : decode code 523 = .ok (.iaload, 1) := by decide +kernel
theorem dL_law_524 : decode code 524 = .ok (.aload_n 0, 1) := by decide +kernel
theorem dL_law_525 : decode code 525 = .ok (.iload 4, 2) := by decide +kernel
theorem dL_law_527 : decode code 527 = .ok (.iconst 2, 1) := by decide +kernel
theorem dL_law_528 : decode code 528 = .ok (.iadd, 1) := by decide +kernel
theorem dL_law_529 : decode code 529 = .ok (.iaload, 1) := by decide +kernel
theorem dL_law_530 : decode code 530 = .ok (.aload_n 0, 1) := by decide +kernel
theorem dL_law_531 : decode code 531 = .ok (.iload 4, 2) := by decide +kernel
theorem dL_law_533 : decode code 533 = .ok (.iconst 3, 1) := by decide +kernel
theorem dL_law_534 : decode code 534 = .ok (.iadd, 1) := by decide +kernel
theorem dL_law_535 : decode code 535 = .ok (.iaload, 1) := by decide +kernel
theorem dL_law_536 : decode code 536 = .ok (.invokevirtual 79, 3) := by decide +kernel
theorem dL_law_539 : decode code 539 = .ok (.if_icmp .eq 368, 3) := by decide +kernel
theorem dL_law_542 : decode code 542 = .ok (.iconst 0, 1) := by decide +kernel
theorem dL_law_543 : decode code 543 = .ok (.ireturn, 1) := by decide +kernel
theorem dL_law_544 : decode code 544 = .ok (.aload_n 1, 1) := by decide +kernel
theorem dL_law_545 : decode code 545 = .ok (.aload_n 0, 1) := by decide +kernel
theorem dL_law_546 : decode code 546 = .ok (.iload 4, 2) := by decide +kernel
theorem dL_law_548 : decode code 548 = .ok (.iconst 1, 1) := by decide +kernel
theorem dL_law_549 : decode code 549 = .ok (.iadd, 1) := by decide +kernel
theorem dL_law_550 : decode code 550 = .ok (.iaload, 1) := by decide +kernel
theorem dL_law_551 : decode code 551 = .ok (.aload_n 0, 1) := by decide +kernel
theorem dL_law_552 : decode code 552 = .ok (.iload 4, 2) := by decide +kernel
theorem dL_law_554 : decode code 554 = .ok (.iconst 2, 1) := by decide +kernel
theorem dL_law_555 : decode code 555 = .ok (.iadd, 1) := by decide +kernel
theorem dL_law_556 : decode code 556 = .ok (.iaload, 1) := by decide +kernel
theorem dL_law_557 : decode code 557 = .ok (.invokevirtual 80, 3) := by decide +kernel
theorem dL_law_560 : decode code 560 = .ok (.aload_n 2, 1) := by decide +kernel
theorem dL_law_561 : decode code 561 = .ok (.aload_n 0, 1) := by decide +kernel
theorem dL_law_562 : decode code 562 = .ok (.iload 4, 2) := by decide +kernel
theorem dL_law_564 : decode code 564 = .ok (.iconst 1, 1) := by decide +kernel
theorem dL_law_565 : decode code 565 = .ok (.iadd, 1) := by decide +kernel
theorem dL_law_566 : decode code 566 = .ok (.iaload, 1) := by decide +kernel
theorem dL_law_567 : decode code 567 = .ok (.aload_n 0, 1) := by decide +kernel
theorem dL_law_568 : decode code 568 = .ok (.iload 4, 2) := by decide +kernel
theorem dL_law_570 : decode code 570 = .ok (.iconst 2, 1) := by decide +kernel
theorem dL_law_571 : decode code 571 = .ok (.iadd, 1) := by decide +kernel
theorem dL_law_572 : decode code 572 = .ok (.iaload, 1) := by decide +kernel
theorem dL_law_573 : decode code 573 = .ok (.invokevirtual 83, 3) := by decide +kernel
theorem dL_law_576 : decode code 576 = .ok (.if_icmp .eq 331, 3) := by decide +kernel
theorem dL_law_579 : decode code 579 = .ok (.iconst 0, 1) := by decide +kernel
theorem dL_law_580 : decode code 580 = .ok (.ireturn, 1) := by decide +kernel
theorem dL_law_581 : decode code 581 = .ok (.aload_n 1, 1) := by decide +kernel
theorem dL_law_582 : decode code 582 = .ok (.aload_n 0, 1) := by decide +kernel
theorem dL_law_583 : decode code 583 = .ok (.iload 4, 2) := by decide +kernel
theorem dL_law_585 : decode code 585 = .ok (.iconst 1, 1) := by decide +kernel
theorem dL_law_586 : decode code 586 = .ok (.iadd, 1) := by decide +kernel
theorem dL_law_587 : decode code 587 = .ok (.iaload, 1) := by decide +kernel
theorem dL_law_588 : decode code 588 = .ok (.aload_n 0, 1) := by decide +kernel
theorem dL_law_589 : decode code 589 = .ok (.iload 4, 2) := by decide +kernel
theorem dL_law_591 : decode code 591 = .ok (.iconst 2, 1) := by decide +kernel
theorem dL_law_592 : decode code 592 = .ok (.iadd, 1) := by decide +kernel
theorem dL_law_593 : decode code 593 = .ok (.iaload, 1) := by decide +kernel
theorem dL_law_594 : decode code 594 = .ok (.invokevirtual 84, 3) := by decide +kernel
theorem dL_law_597 : decode code 597 = .ok (.aload_n 2, 1) := by decide +kernel
theorem dL_law_598 : decode code 598 = .ok (.aload_n 0, 1) := by decide +kernel
theorem dL_law_599 : decode code 599 = .ok (.iload 4, 2) := by decide +kernel
theorem dL_law_601 : decode code 601 = .ok (.iconst 1, 1) := by decide +kernel
theorem dL_law_602 : decode code 602 = .ok (.iadd, 1) := by decide +kernel
theorem dL_law_603 : decode code 603 = .ok (.iaload, 1) := by decide +kernel
theorem dL_law_604 : decode code 604 = .ok (.aload_n 0, 1) := by decide +kernel
theorem dL_law_605 : decode code 605 = .ok (.iload 4, 2) := by decide +kernel
theorem dL_law_607 : decode code 607 = .ok (.iconst 2, 1) := by decide +kernel
theorem dL_law_608 : decode code 608 = .ok (.iadd, 1) := by decide +kernel
theorem dL_law_609 : decode code 609 = .ok (.iaload, 1) := by decide +kernel
theorem dL_law_610 : decode code 610 = .ok (.invokevirtual 87, 3) := by decide +kernel
theorem dL_law_613 : decode code 613 = .ok (.if_icmp .eq 294, 3) := by decide +kernel
theorem dL_law_616 : decode code 616 = .ok (.iconst 0, 1) := by decide +kernel
theorem dL_law_617 : decode code 617 = .ok (.ireturn, 1) := by decide +kernel
theorem dL_law_618 : decode code 618 = .ok (.aload_n 1, 1) := by decide +kernel
theorem dL_law_619 : decode code 619 = .ok (.aload_n 0, 1) := by decide +kernel
theorem dL_law_620 : decode code 620 = .ok (.iload 4, 2) := by decide +kernel
theorem dL_law_622 : decode code 622 = .ok (.iconst 1, 1) := by decide +kernel
theorem dL_law_623 : decode code 623 = .ok (.iadd, 1) := by decide +kernel
theorem dL_law_624 : decode code 624 = .ok (.iaload, 1) := by decide +kernel
theorem dL_law_625 : decode code 625 = .ok (.aload_n 0, 1) := by decide +kernel
theorem dL_law_626 : decode code 626 = .ok (.iload 4, 2) := by decide +kernel
theorem dL_law_628 : decode code 628 = .ok (.iconst 2, 1) := by decide +kernel
theorem dL_law_629 : decode code 629 = .ok (.iadd, 1) := by decide +kernel
theorem dL_law_630 : decode code 630 = .ok (.iaload, 1) := by decide +kernel
theorem dL_law_631 : decode code 631 = .ok (.invokevirtual 88, 3) := by decide +kernel
theorem dL_law_634 : decode code 634 = .ok (.aload_n 2, 1) := by decide +kernel
theorem dL_law_635 : decode code 635 = .ok (.aload_n 0, 1) := by decide +kernel
theorem dL_law_636 : decode code 636 = .ok (.iload 4, 2) := by decide +kernel
theorem dL_law_638 : decode code 638 = .ok (.iconst 1, 1) := by decide +kernel
theorem dL_law_639 : decode code 639 = .ok (.iadd, 1) := by decide +kernel
theorem dL_law_640 : decode code 640 = .ok (.iaload, 1) := by decide +kernel
theorem dL_law_641 : decode code 641 = .ok (.aload_n 0, 1) := by decide +kernel
theorem dL_law_642 : decode code 642 = .ok (.iload 4, 2) := by decide +kernel
theorem dL_law_644 : decode code 644 = .ok (.iconst 2, 1) := by decide +kernel
theorem dL_law_645 : decode code 645 = .ok (.iadd, 1) := by decide +kernel
theorem dL_law_646 : decode code 646 = .ok (.iaload, 1) := by decide +kernel
theorem dL_law_647 : decode code 647 = .ok (.invokevirtual 91, 3) := by decide +kernel
theorem dL_law_650 : decode code 650 = .ok (.if_icmp .eq 257, 3) := by decide +kernel
theorem dL_law_653 : decode code 653 = .ok (.iconst 0, 1) := by decide +kernel
theorem dL_law_654 : decode code 654 = .ok (.ireturn, 1) := by decide +kernel
theorem dL_law_655 : decode code 655 = .ok (.aload_n 1, 1) := by decide +kernel
theorem dL_law_656 : decode code 656 = .ok (.aload_n 0, 1) := by decide +kernel
theorem dL_law_657 : decode code 657 = .ok (.iload 4, 2) := by decide +kernel
theorem dL_law_659 : decode code 659 = .ok (.iconst 1, 1) := by decide +kernel
theorem dL_law_660 : decode code 660 = .ok (.iadd, 1) := by decide +kernel
theorem dL_law_661 : decode code 661 = .ok (.iaload, 1) := by decide +kernel
theorem dL_law_662 : decode code 662 = .ok (.aload_n 0, 1) := by decide +kernel
theorem dL_law_663 : decode code 663 = .ok (.iload 4, 2) := by decide +kernel
theorem dL_law_665 : decode code 665 = .ok (.iconst 2, 1) := by decide +kernel
theorem dL_law_666 : decode code 666 = .ok (.iadd, 1) := by decide +kernel
theorem dL_law_667 : decode code 667 = .ok (.iaload, 1) := by decide +kernel
theorem dL_law_668 : decode code 668 = .ok (.aload_n 0, 1) := by decide +kernel
theorem dL_law_669 : decode code 669 = .ok (.iload 4, 2) := by decide +kernel
theorem dL_law_671 : decode code 671 = .ok (.iconst 3, 1) := by decide +kernel
theorem dL_law_672 : decode code 672 = .ok (.iadd, 1) := by decide +kernel
theorem dL_law_673 : decode code 673 = .ok (.iaload, 1) := by decide +kernel
theorem dL_law_674 : decode code 674 = .ok (.aload_n 0, 1) := by decide +kernel
theorem dL_law_675 : decode code 675 = .ok (.iload 4, 2) := by decide +kernel
theorem dL_law_677 : decode code 677 = .ok (.iconst 4, 1) := by decide +kernel
theorem dL_law_678 : decode code 678 = .ok (.iadd, 1) := by decide +kernel
theorem dL_law_679 : decode code 679 = .ok (.iaload, 1) := by decide +kernel
theorem dL_law_680 : decode code 680 = .ok (.aload_n 3, 1) := by decide +kernel
theorem dL_law_681 : decode code 681 = .ok (.invokestatic 92, 3) := by decide +kernel
theorem dL_law_684 : decode code 684 = .ok (.istore 5, 2) := by decide +kernel
theorem dL_law_686 : decode code 686 = .ok (.aload_n 2, 1) := by decide +kernel
theorem dL_law_687 : decode code 687 = .ok (.aload_n 0, 1) := by decide +kernel
theorem dL_law_688 : decode code 688 = .ok (.iload 4, 2) := by decide +kernel
theorem dL_law_690 : decode code 690 = .ok (.iconst 1, 1) := by decide +kernel
theorem dL_law_691 : decode code 691 = .ok (.iadd, 1) := by decide +kernel
theorem dL_law_692 : decode code 692 = .ok (.iaload, 1) := by decide +kernel
theorem dL_law_693 : decode code 693 = .ok (.aload_n 0, 1) := by decide +kernel
theorem dL_law_694 : decode code 694 = .ok (.iload 4, 2) := by decide +kernel
theorem dL_law_696 : decode code 696 = .ok (.iconst 2, 1) := by decide +kernel
theorem dL_law_697 : decode code 697 = .ok (.iadd, 1) := by decide +kernel
theorem dL_law_698 : decode code 698 = .ok (.iaload, 1) := by decide +kernel
theorem dL_law_699 : decode code 699 = .ok (.aload_n 0, 1) := by decide +kernel
theorem dL_law_700 : decode code 700 = .ok (.iload 4, 2) := by decide +kernel
theorem dL_law_702 : decode code 702 = .ok (.iconst 3, 1) := by decide +kernel
theorem dL_law_703 : decode code 703 = .ok (.iadd, 1) := by decide +kernel
theorem dL_law_704 : decode code 704 = .ok (.iaload, 1) := by decide +kernel
theorem dL_law_705 : decode code 705 = .ok (.aload_n 0, 1) := by decide +kernel
theorem dL_law_706 : decode code 706 = .ok (.iload 4, 2) := by decide +kernel
theorem dL_law_708 : decode code 708 = .ok (.iconst 4, 1) := by decide +kernel
theorem dL_law_709 : decode code 709 = .ok (.iadd, 1) := by decide +kernel
theorem dL_law_710 : decode code 710 = .ok (.iaload, 1) := by decide +kernel
theorem dL_law_711 : decode code 711 = .ok (.invokevirtual 95, 3) := by decide +kernel
theorem dL_law_714 : decode code 714 = .ok (.istore 6, 2) := by decide +kernel
theorem dL_law_716 : decode code 716 = .ok (.aload_n 2, 1) := by decide +kernel
theorem dL_law_717 : decode code 717 = .ok (.invokevirtual 96, 3) := by decide +kernel
theorem dL_law_720 : decode code 720 = .ok (.iload 5, 2) := by decide +kernel
theorem dL_law_722 : decode code 722 = .ok (.if_icmp .eq 5, 3) := by decide +kernel
theorem dL_law_725 : decode code 725 = .ok (.iconst 0, 1) := by decide +kernel
theorem dL_law_726 : decode code 726 = .ok (.ireturn, 1) := by decide +kernel
theorem dL_law_727 : decode code 727 = .ok (.iload 5, 2) := by decide +kernel
theorem dL_law_729 : decode code 729 = .ok (.ifCond .ne 15, 3) := by decide +kernel
theorem dL_law_732 : decode code 732 = .ok (.aload_n 3, 1) := by decide +kernel
theorem dL_law_733 : decode code 733 = .ok (.iconst 0, 1) := by decide +kernel
theorem dL_law_734 : decode code 734 = .ok (.laload, 1) := by decide +kernel
theorem dL_law_735 : decode code 735 = .ok (.iload 6, 2) := by decide +kernel
theorem dL_law_737 : decode code 737 = .ok (.i2l, 1) := by decide +kernel
theorem dL_law_738 : decode code 738 = .ok (.lcmp, 1) := by decide +kernel
theorem dL_law_739 : decode code 739 = .ok (.ifCond .eq 5, 3) := by decide +kernel
theorem dL_law_742 : decode code 742 = .ok (.iconst 0, 1) := by decide +kernel
theorem dL_law_743 : decode code 743 = .ok (.ireturn, 1) := by decide +kernel
theorem dL_law_744 : decode code 744 = .ok (.goto 163, 3) := by decide +kernel
theorem dL_law_747 : decode code 747 = .ok (.aload_n 1, 1) := by decide +kernel
theorem dL_law_748 : decode code 748 = .ok (.aload_n 0, 1) := by decide +kernel
theorem dL_law_749 : decode code 749 = .ok (.iload 4, 2) := by decide +kernel
theorem dL_law_751 : decode code 751 = .ok (.iconst 1, 1) := by decide +kernel
theorem dL_law_752 : decode code 752 = .ok (.iadd, 1) := by decide +kernel
theorem dL_law_753 : decode code 753 = .ok (.iaload, 1) := by decide +kernel
theorem dL_law_754 : decode code 754 = .ok (.aload_n 0, 1) := by decide +kernel
theorem dL_law_755 : decode code 755 = .ok (.iload 4, 2) := by decide +kernel
theorem dL_law_757 : decode code 757 = .ok (.iconst 2, 1) := by decide +kernel
theorem dL_law_758 : decode code 758 = .ok (.iadd, 1) := by decide +kernel
theorem dL_law_759 : decode code 759 = .ok (.iaload, 1) := by decide +kernel
theorem dL_law_760 : decode code 760 = .ok (.invokevirtual 99, 3) := by decide +kernel
theorem dL_law_763 : decode code 763 = .ok (.aload_n 2, 1) := by decide +kernel
theorem dL_law_764 : decode code 764 = .ok (.aload_n 0, 1) := by decide +kernel
theorem dL_law_765 : decode code 765 = .ok (.iload 4, 2) := by decide +kernel
theorem dL_law_767 : decode code 767 = .ok (.iconst 1, 1) := by decide +kernel
theorem dL_law_768 : decode code 768 = .ok (.iadd, 1) := by decide +kernel
theorem dL_law_769 : decode code 769 = .ok (.iaload, 1) := by decide +kernel
theorem dL_law_770 : decode code 770 = .ok (.aload_n 0, 1) := by decide +kernel
theorem dL_law_771 : decode code 771 = .ok (.iload 4, 2) := by decide +kernel
theorem dL_law_773 : decode code 773 = .ok (.iconst 2, 1) := by decide +kernel
theorem dL_law_774 : decode code 774 = .ok (.iadd, 1) := by decide +kernel
theorem dL_law_775 : decode code 775 = .ok (.iaload, 1) := by decide +kernel
theorem dL_law_776 : decode code 776 = .ok (.invokevirtual 102, 3) := by decide +kernel
theorem dL_law_779 : decode code 779 = .ok (.if_icmp .eq 128, 3) := by decide +kernel
theorem dL_law_782 : decode code 782 = .ok (.iconst 0, 1) := by decide +kernel
theorem dL_law_783 : decode code 783 = .ok (.ireturn, 1) := by decide +kernel
theorem dL_law_784 : decode code 784 = .ok (.aload_n 1, 1) := by decide +kernel
theorem dL_law_785 : decode code 785 = .ok (.aload_n 0, 1) := by decide +kernel
theorem dL_law_786 : decode code 786 = .ok (.iload 4, 2) := by decide +kernel
theorem dL_law_788 : decode code 788 = .ok (.iconst 1, 1) := by decide +kernel
theorem dL_law_789 : decode code 789 = .ok (.iadd, 1) := by decide +kernel
theorem dL_law_790 : decode code 790 = .ok (.iaload, 1) := by decide +kernel
theorem dL_law_791 : decode code 791 = .ok (.invokevirtual 103, 3) := by decide +kernel
theorem dL_law_794 : decode code 794 = .ok (.aload_n 2, 1) := by decide +kernel
theorem dL_law_795 : decode code 795 = .ok (.aload_n 0, 1) := by decide +kernel
theorem dL_law_796 : decode code 796 = .ok (.iload 4, 2) := by decide +kernel
theorem dL_law_798 : decode code 798 = .ok (.iconst 1, 1) := by decide +kernel
theorem dL_law_799 : decode code 799 = .ok (.iadd, 1) := by decide +kernel
theorem dL_law_800 : decode code 800 = .ok (.iaload, 1) := by decide +kernel
theorem dL_law_801 : decode code 801 = .ok (.invokevirtual 106, 3) := by decide +kernel
theorem dL_law_804 : decode code 804 = .ok (.if_icmp .eq 103, 3) := by decide +kernel
theorem dL_law_807 : decode code 807 = .ok (.iconst 0, 1) := by decide +kernel
theorem dL_law_808 : decode code 808 = .ok (.ireturn, 1) := by decide +kernel
theorem dL_law_809 : decode code 809 = .ok (.aload_n 1, 1) := by decide +kernel
theorem dL_law_810 : decode code 810 = .ok (.aload_n 0, 1) := by decide +kernel
theorem dL_law_811 : decode code 811 = .ok (.iload 4, 2) := by decide +kernel
theorem dL_law_813 : decode code 813 = .ok (.iconst 1, 1) := by decide +kernel
theorem dL_law_814 : decode code 814 = .ok (.iadd, 1) := by decide +kernel
theorem dL_law_815 : decode code 815 = .ok (.iaload, 1) := by decide +kernel
theorem dL_law_816 : decode code 816 = .ok (.aload_n 0, 1) := by decide +kernel
theorem dL_law_817 : decode code 817 = .ok (.iload 4, 2) := by decide +kernel
theorem dL_law_819 : decode code 819 = .ok (.iconst 2, 1) := by decide +kernel
theorem dL_law_820 : decode code 820 = .ok (.iadd, 1) := by decide +kernel
theorem dL_law_821 : decode code 821 = .ok (.iaload, 1) := by decide +kernel
theorem dL_law_822 : decode code 822 = .ok (.aload_n 0, 1) := by decide +kernel
theorem dL_law_823 : decode code 823 = .ok (.iload 4, 2) := by decide +kernel
theorem dL_law_825 : decode code 825 = .ok (.iconst 3, 1) := by decide +kernel
theorem dL_law_826 : decode code 826 = .ok (.iadd, 1) := by decide +kernel
theorem dL_law_827 : decode code 827 = .ok (.iaload, 1) := by decide +kernel
theorem dL_law_828 : decode code 828 = .ok (.invokevirtual 107, 3) := by decide +kernel
theorem dL_law_831 : decode code 831 = .ok (.aload_n 2, 1) := by decide +kernel
theorem dL_law_832 : decode code 832 = .ok (.aload_n 0, 1) := by decide +kernel
theorem dL_law_833 : decode code 833 = .ok (.iload 4, 2) := by decide +kernel
theorem dL_law_835 : decode code 835 = .ok (.iconst 1, 1) := by decide +kernel
theorem dL_law_836 : decode code 836 = .ok (.iadd, 1) := by decide +kernel
theorem dL_law_837 : decode code 837 = .ok (.iaload, 1) := by decide +kernel
theorem dL_law_838 : decode code 838 = .ok (.aload_n 0, 1) := by decide +kernel
theorem dL_law_839 : decode code 839 = .ok (.iload 4, 2) := by decide +kernel
theorem dL_law_841 : decode code 841 = .ok (.iconst 2, 1) := by decide +kernel
theorem dL_law_842 : decode code 842 = .ok (.iadd, 1) := by decide +kernel
theorem dL_law_843 : decode code 843 = .ok (.iaload, 1) := by decide +kernel
theorem dL_law_844 : decode code 844 = .ok (.aload_n 0, 1) := by decide +kernel
theorem dL_law_845 : decode code 845 = .ok (.iload 4, 2) := by decide +kernel
theorem dL_law_847 : decode code 847 = .ok (.iconst 3, 1) := by decide +kernel
theorem dL_law_848 : decode code 848 = .ok (.iadd, 1) := by decide +kernel
theorem dL_law_849 : decode code 849 = .ok (.iaload, 1) := by decide +kernel
theorem dL_law_850 : decode code 850 = .ok (.invokevirtual 110, 3) := by decide +kernel
theorem dL_law_853 : decode code 853 = .ok (.if_icmp .eq 54, 3) := by decide +kernel
theorem dL_law_856 : decode code 856 = .ok (.iconst 0, 1) := by decide +kernel
theorem dL_law_857 : decode code 857 = .ok (.ireturn, 1) := by decide +kernel
theorem dL_law_858 : decode code 858 = .ok (.aload_n 1, 1) := by decide +kernel
theorem dL_law_859 : decode code 859 = .ok (.aload_n 0, 1) := by decide +kernel
theorem dL_law_860 : decode code 860 = .ok (.iload 4, 2) := by decide +kernel
theorem dL_law_862 : decode code 862 = .ok (.iconst 1, 1) := by decide +kernel
theorem dL_law_863 : decode code 863 = .ok (.iadd, 1) := by decide +kernel
theorem dL_law_864 : decode code 864 = .ok (.iaload, 1) := by decide +kernel
theorem dL_law_865 : decode code 865 = .ok (.aload_n 0, 1) := by decide +kernel
theorem dL_law_866 : decode code 866 = .ok (.iload 4, 2) := by decide +kernel
theorem dL_law_868 : decode code 868 = .ok (.iconst 2, 1) := by decide +kernel
theorem dL_law_869 : decode code 869 = .ok (.iadd, 1) := by decide +kernel
theorem dL_law_870 : decode code 870 = .ok (.iaload, 1) := by decide +kernel
theorem dL_law_871 : decode code 871 = .ok (.aload_n 0, 1) := by decide +kernel
theorem dL_law_872 : decode code 872 = .ok (.iload 4, 2) := by decide +kernel
theorem dL_law_874 : decode code 874 = .ok (.iconst 3, 1) := by decide +kernel
theorem dL_law_875 : decode code 875 = .ok (.iadd, 1) := by decide +kernel
theorem dL_law_876 : decode code 876 = .ok (.iaload, 1) := by decide +kernel
theorem dL_law_877 : decode code 877 = .ok (.invokevirtual 111, 3) := by decide +kernel
theorem dL_law_880 : decode code 880 = .ok (.aload_n 2, 1) := by decide +kernel
theorem dL_law_881 : decode code 881 = .ok (.aload_n 0, 1) := by decide +kernel
theorem dL_law_882 : decode code 882 = .ok (.iload 4, 2) := by decide +kernel
theorem dL_law_884 : decode code 884 = .ok (.iconst 1, 1) := by decide +kernel
theorem dL_law_885 : decode code 885 = .ok (.iadd, 1) := by decide +kernel
theorem dL_law_886 : decode code 886 = .ok (.iaload, 1) := by decide +kernel
theorem dL_law_887 : decode code 887 = .ok (.aload_n 0, 1) := by decide +kernel
theorem dL_law_888 : decode code 888 = .ok (.iload 4, 2) := by decide +kernel
theorem dL_law_890 : decode code 890 = .ok (.iconst 2, 1) := by decide +kernel
theorem dL_law_891 : decode code 891 = .ok (.iadd, 1) := by decide +kernel
theorem dL_law_892 : decode code 892 = .ok (.iaload, 1) := by decide +kernel
theorem dL_law_893 : decode code 893 = .ok (.aload_n 0, 1) := by decide +kernel
theorem dL_law_894 : decode code 894 = .ok (.iload 4, 2) := by decide +kernel
theorem dL_law_896 : decode code 896 = .ok (.iconst 3, 1) := by decide +kernel
theorem dL_law_897 : decode code 897 = .ok (.iadd, 1) := by decide +kernel
theorem dL_law_898 : decode code 898 = .ok (.iaload, 1) := by decide +kernel
theorem dL_law_899 : decode code 899 = .ok (.invokevirtual 114, 3) := by decide +kernel
theorem dL_law_902 : decode code 902 = .ok (.if_icmp .eq 5, 3) := by decide +kernel
theorem dL_law_905 : decode code 905 = .ok (.iconst 0, 1) := by decide +kernel
theorem dL_law_906 : decode code 906 = .ok (.ireturn, 1) := by decide +kernel
theorem dL_law_907 : decode code 907 = .ok (.iinc 4 5, 3) := by decide +kernel
theorem dL_law_910 : decode code 910 = .ok (.goto (-877), 3) := by decide +kernel
theorem dL_law_913 : decode code 913 = .ok (.iconst 1, 1) := by decide +kernel
theorem dL_law_914 : decode code 914 = .ok (.ireturn, 1) := by decide +kernel
theorem dL_law_49 : decode code 49 = .ok (.tableswitch 858 0 19 #[95, 132, 157, 194, 207, 232, 245, 298, 323, 336, 385, 446, 495, 532, 569, 606, 698, 735, 760, 809], 95) := by decide +kernel
def LL_law_33 (z0 : Nat) (L : Nat) (xs : Nat → Int32) (r2 : (Hp × Nat)) (r4 : (Hp × Nat)) (K10 : Hp → Nat → Nat → Nat → Option Unit) (rec16 : Hp → Nat → Nat → Nat → Int32 → Option Unit) (h11 : Hp) (k12 : Nat) (n13 : Nat) (z14 : Nat) (x15 : Int32) : Option Unit :=
  if ((Int32.ofNat L) - 5) < x15 then
    (K10 h11 k12 n13 z14)
  else
    (ldS xs L x15 (fun x17 =>
    jn (fun (h18 : Hp) (k19 : Nat) (n20 : Nat) (z21 : Nat) =>
    rec16 h18 k19 n20 z21 (x15 + 5))
    (fun (j22 : Hp → Nat → Nat → Nat → Option Unit) =>
    if ((x17 &&& 31)).toInt = 0 then
      (ldS xs L (x15 + 1) (fun x23 =>
      ldS xs L (x15 + 2) (fun x24 =>
      gd (k12 ≤ 601024 ∧ n13 ≤ 7293000) (gd (isO h11 z0 4 = true) ((FA_form h11 z0 x23 x24).bind (fun r26 =>
      ldS xs L (x15 + 1) (fun x27 =>
      ldS xs L (x15 + 2) (fun x28 =>
      gd (k12 ≤ 601024 ∧ n13 ≤ 7293000) (gd (isO r26.1 r2.2 5 = true) ((FM_form r26.1 r2.2 x27 x28).bind (fun r30 =>
      if r26.2 = r30.2 then
        (j22 r30.1 k12 n13 z14)
      else
        (none))))))))))))
    else if ((x17 &&& 31)).toInt = 1 then
      (ldS xs L (x15 + 1) (fun x31 =>
      gd (k12 ≤ 601024 ∧ n13 ≤ 7293000) (gd (isO h11 z0 4 = true) ((FA_limit h11 z0 x31).bind (fun r33 =>
      ldS xs L (x15 + 1) (fun x34 =>
      gd (k12 ≤ 601024 ∧ n13 ≤ 7293000) (gd (isO r33.1 r2.2 5 = true) ((FM_limit r33.1 r2.2 x34).bind (fun r36 =>
      if r33.2 = r36.2 then
        (j22 r36.1 k12 n13 z14)
      else
        (none))))))))))
    else if ((x17 &&& 31)).toInt = 2 then
      (ldS xs L (x15 + 1) (fun x37 =>
      ldS xs L (x15 + 2) (fun x38 =>
      gd (k12 ≤ 601024 ∧ n13 ≤ 7293000) (gd (isO h11 z0 4 = true) ((FA_put h11 z0 x37 x38).bind (fun r40 =>
      ldS xs L (x15 + 1) (fun x41 =>
      ldS xs L (x15 + 2) (fun x42 =>
      gd (k12 ≤ 601024 ∧ n13 ≤ 7293000) (gd (isO r40.1 r2.2 5 = true) ((FM_put r40.1 r2.2 x41 x42).bind (fun r44 =>
      if r40.2 = r44.2 then
        (j22 r44.1 k12 n13 z14)
      else
        (none))))))))))))
    else if ((x17 &&& 31)).toInt = 3 then
      (gd (k12 ≤ 601024 ∧ n13 ≤ 7293000) (gd (isO h11 z0 4 = true) ((FA_bits h11 z0).bind (fun r46 =>
      gd (k12 ≤ 601024 ∧ n13 ≤ 7293000) (gd (isO h11 r2.2 5 = true) ((FM_bits h11 r2.2).bind (fun r48 =>
      if r46 = r48.2 then
        (j22 r48.1 k12 n13 z14)
      else
        (none))))))))
    else if ((x17 &&& 31)).toInt = 4 then
      (ldS xs L (x15 + 1) (fun x49 =>
      gd (k12 ≤ 601024 ∧ n13 ≤ 7293000) (gd (isO h11 z0 4 = true) ((FA_bit h11 z0 x49).bind (fun r51 =>
      ldS xs L (x15 + 1) (fun x52 =>
      gd (k12 ≤ 601024 ∧ n13 ≤ 7293000) (gd (isO h11 r2.2 5 = true) ((FM_bit h11 r2.2 x52).bind (fun r54 =>
      if r51 = r54.2 then
        (j22 r54.1 k12 n13 z14)
      else
        (none))))))))))
    else if ((x17 &&& 31)).toInt = 5 then
      (gd (k12 ≤ 601024 ∧ n13 ≤ 7293000) (gd (isO h11 z0 4 = true) ((FA_drop h11 z0).bind (fun r56 =>
      gd (k12 ≤ 601024 ∧ n13 ≤ 7293000) (gd (isO r56.1 r2.2 5 = true) ((FM_drop r56.1 r2.2).bind (fun r58 =>
      if r56.2 = r58.2 then
        (j22 r58.1 k12 n13 z14)
      else
        (none))))))))
    else if ((x17 &&& 31)).toInt = 6 then
      (ldS xs L (x15 + 1) (fun x59 =>
      ldS xs L (x15 + 2) (fun x60 =>
      jn (fun (y61 : Int32) (y62 : Int32) (b63 : Nat) =>
      gd (k12 ≤ 601024 ∧ n13 ≤ 7293000) (gd (isO h11 b63 4 = true) ((FA_get h11 b63 y62 y61).bind (fun r66 =>
      ldS xs L (x15 + 1) (fun x67 =>
      ldS xs L (x15 + 2) (fun x68 =>
      jn (fun (y69 : Int32) (y70 : Int32) (b71 : Nat) (y72 : Int32) =>
      gd (k12 ≤ 601024 ∧ n13 ≤ 7293000) (gd (isO r66.1 b71 5 = true) ((FM_get r66.1 b71 y70 y69).bind (fun r75 =>
      if y72 = r75.2 then
        (j22 r75.1 k12 n13 z14)
      else
        (none)))))
      (fun (j73 : Int32 → Int32 → Nat → Int32 → Option Unit) =>
      if x68 = 0 then
        (j73 0 x67 r2.2 r66.2)
      else
        (j73 1 x67 r2.2 r66.2))))))))
      (fun (j64 : Int32 → Int32 → Nat → Option Unit) =>
      if x60 = 0 then
        (j64 0 x59 z0)
      else
        (j64 1 x59 z0)))))
    else if ((x17 &&& 31)).toInt = 7 then
      (ldS xs L (x15 + 1) (fun x76 =>
      gd (k12 ≤ 601024 ∧ n13 ≤ 7293000) (gd (isO h11 z0 4 = true) ((FA_pull h11 z0 x76).bind (fun r78 =>
      ldS xs L (x15 + 1) (fun x79 =>
      gd (k12 ≤ 601024 ∧ n13 ≤ 7293000) (gd (isO r78.1 r2.2 5 = true) ((FM_pull r78.1 r2.2 x79).bind (fun r81 =>
      if r78.2 = r81.2 then
        (j22 r81.1 k12 n13 z14)
      else
        (none))))))))))
    else if ((x17 &&& 31)).toInt = 8 then
      (gd (k12 ≤ 601024 ∧ n13 ≤ 7293000) (gd (isO h11 z0 4 = true) ((FA_pulled h11 z0).bind (fun r83 =>
      gd (k12 ≤ 601024 ∧ n13 ≤ 7293000) (gd (isO h11 r2.2 5 = true) ((FM_pulled h11 r2.2).bind (fun r85 =>
      if r83 = r85.2 then
        (j22 r85.1 k12 n13 z14)
      else
        (none))))))))
    else if ((x17 &&& 31)).toInt = 9 then
      (ldS xs L (x15 + 1) (fun x86 =>
      ldS xs L (x15 + 2) (fun x87 =>
      ldS xs L (x15 + 3) (fun x88 =>
      gd (k12 ≤ 601024 ∧ n13 ≤ 7293000) (gd (isO h11 z0 4 = true) ((FA_cost h11 z0 x86 x87 x88).bind (fun r90 =>
      ldS xs L (x15 + 1) (fun x91 =>
      ldS xs L (x15 + 2) (fun x92 =>
      ldS xs L (x15 + 3) (fun x93 =>
      gd (k12 ≤ 601024 ∧ n13 ≤ 7293000) (gd (isO r90.1 r2.2 5 = true) ((FM_cost r90.1 r2.2 x91 x92 x93).bind (fun r95 =>
      if r90.2 = r95.2 then
        (j22 r95.1 k12 n13 z14)
      else
        (none))))))))))))))
    else if ((x17 &&& 31)).toInt = 10 then
      (ldS xs L (x15 + 1) (fun x96 =>
      ldS xs L (x15 + 2) (fun x97 =>
      ldS xs L (x15 + 3) (fun x98 =>
      ldS xs L (x15 + 4) (fun x99 =>
      gd (k12 ≤ 601024 ∧ n13 ≤ 7293000) (gd (isO h11 z0 4 = true) ((FA_code h11 z0 x96 x97 x98 x99).bind (fun r101 =>
      ldS xs L (x15 + 1) (fun x102 =>
      ldS xs L (x15 + 2) (fun x103 =>
      ldS xs L (x15 + 3) (fun x104 =>
      ldS xs L (x15 + 4) (fun x105 =>
      gd (k12 ≤ 601024 ∧ n13 ≤ 7293000) (gd (isO r101.1 r2.2 5 = true) ((FM_code r101.1 r2.2 x102 x103 x104 x105).bind (fun r107 =>
      if r101.2 = r107.2 then
        (j22 r107.1 k12 n13 z14)
      else
        (none))))))))))))))))
    else if ((x17 &&& 31)).toInt = 11 then
      (ldS xs L (x15 + 1) (fun x108 =>
      ldS xs L (x15 + 2) (fun x109 =>
      ldS xs L (x15 + 3) (fun x110 =>
      gd (k12 ≤ 601024 ∧ n13 ≤ 7293000) (gd (isO h11 z0 4 = true) ((FA_knows h11 z0 x108 x109 x110).bind (fun r112 =>
      ldS xs L (x15 + 1) (fun x113 =>
      ldS xs L (x15 + 2) (fun x114 =>
      ldS xs L (x15 + 3) (fun x115 =>
      gd (k12 ≤ 601024 ∧ n13 ≤ 7293000) (gd (isO h11 r2.2 5 = true) ((FM_knows h11 r2.2 x113 x114 x115).bind (fun r117 =>
      if r112 = r117.2 then
        (j22 r117.1 k12 n13 z14)
      else
        (none))))))))))))))
    else if ((x17 &&& 31)).toInt = 12 then
      (ldS xs L (x15 + 1) (fun x118 =>
      ldS xs L (x15 + 2) (fun x119 =>
      gd (k12 ≤ 601024 ∧ n13 ≤ 7293000) (gd (isO h11 z0 4 = true) ((FA_escape h11 z0 x118 x119).bind (fun r121 =>
      ldS xs L (x15 + 1) (fun x122 =>
      ldS xs L (x15 + 2) (fun x123 =>
      gd (k12 ≤ 601024 ∧ n13 ≤ 7293000) (gd (isO h11 r2.2 5 = true) ((FM_escape h11 r2.2 x122 x123).bind (fun r125 =>
      if r121 = r125.2 then
        (j22 r125.1 k12 n13 z14)
      else
        (none))))))))))))
    else if ((x17 &&& 31)).toInt = 13 then
      (ldS xs L (x15 + 1) (fun x126 =>
      ldS xs L (x15 + 2) (fun x127 =>
      gd (k12 ≤ 601024 ∧ n13 ≤ 7293000) (gd (isO h11 z0 4 = true) ((FA_halved h11 z0 x126 x127).bind (fun r129 =>
      ldS xs L (x15 + 1) (fun x130 =>
      ldS xs L (x15 + 2) (fun x131 =>
      gd (k12 ≤ 601024 ∧ n13 ≤ 7293000) (gd (isO h11 r2.2 5 = true) ((FM_halved h11 r2.2 x130 x131).bind (fun r133 =>
      if r129 = r133.2 then
        (j22 r133.1 k12 n13 z14)
      else
        (none))))))))))))
    else if ((x17 &&& 31)).toInt = 14 then
      (ldS xs L (x15 + 1) (fun x134 =>
      ldS xs L (x15 + 2) (fun x135 =>
      gd (k12 ≤ 601024 ∧ n13 ≤ 7293000) (gd (isO h11 z0 4 = true) ((FA_nodes h11 z0 x134 x135).bind (fun r137 =>
      ldS xs L (x15 + 1) (fun x138 =>
      ldS xs L (x15 + 2) (fun x139 =>
      gd (k12 ≤ 601024 ∧ n13 ≤ 7293000) (gd (isO h11 r2.2 5 = true) ((FM_nodes h11 r2.2 x138 x139).bind (fun r141 =>
      if r137 = r141.2 then
        (j22 r141.1 k12 n13 z14)
      else
        (none))))))))))))
    else if ((x17 &&& 31)).toInt = 15 then
      (ldS xs L (x15 + 1) (fun x142 =>
      ldS xs L (x15 + 2) (fun x143 =>
      ldS xs L (x15 + 3) (fun x144 =>
      ldS xs L (x15 + 4) (fun x145 =>
      gd (k12 + 1 ≤ 601024 ∧ n13 + 6 ≤ 7293000) ((FL_node h11 z14 z0 x142 x143 x144 x145 r4.2).bind (fun r146 =>
      ldS xs L (x15 + 1) (fun x147 =>
      ldS xs L (x15 + 2) (fun x148 =>
      ldS xs L (x15 + 3) (fun x149 =>
      ldS xs L (x15 + 4) (fun x150 =>
      gd ((k12 + 1) ≤ 601024 ∧ (n13 + 6) ≤ 7293000) (gd (isO r146.1 r2.2 5 = true) ((FM_node r146.1 r2.2 x147 x148 x149 x150).bind (fun r152 =>
      gd ((k12 + 1) ≤ 601024 ∧ (n13 + 6) ≤ 7293000) (gd (isO r152.1 r2.2 5 = true) ((FM_thrown r152.1 r2.2).bind (fun r154 =>
      if r154 = r146.2.2 then
        (jn (j22 r152.1 (k12 + 1) (n13 + 6) r146.2.1)
        (fun (j155 : Option Unit) =>
        if r146.2.2 = 0 then
          (ldL r152.1 r4.2 2 0 (fun x156 =>
          if (lg_cmp x156 r152.2.toInt64) = 0 then
            (j155)
          else
            (none)))
        else
          (j155)))
      else
        (none))))))))))))))))))
    else if ((x17 &&& 31)).toInt = 16 then
      (ldS xs L (x15 + 1) (fun x157 =>
      ldS xs L (x15 + 2) (fun x158 =>
      gd (k12 ≤ 601024 ∧ n13 ≤ 7293000) (gd (isO h11 z0 4 = true) ((FA_well h11 z0 x157 x158).bind (fun r160 =>
      ldS xs L (x15 + 1) (fun x161 =>
      ldS xs L (x15 + 2) (fun x162 =>
      gd (k12 ≤ 601024 ∧ n13 ≤ 7293000) (gd (isO h11 r2.2 5 = true) ((FM_well h11 r2.2 x161 x162).bind (fun r164 =>
      if r160 = r164.2 then
        (j22 r164.1 k12 n13 z14)
      else
        (none))))))))))))
    else if ((x17 &&& 31)).toInt = 17 then
      (ldS xs L (x15 + 1) (fun x165 =>
      gd (k12 ≤ 601024 ∧ n13 ≤ 7293000) (gd (isO h11 z0 4 = true) ((FA_same h11 z0 x165).bind (fun r167 =>
      ldS xs L (x15 + 1) (fun x168 =>
      gd (k12 ≤ 601024 ∧ n13 ≤ 7293000) (gd (isO h11 r2.2 5 = true) ((FM_same h11 r2.2 x168).bind (fun r170 =>
      if r167 = r170.2 then
        (j22 r170.1 k12 n13 z14)
      else
        (none))))))))))
    else if ((x17 &&& 31)).toInt = 18 then
      (ldS xs L (x15 + 1) (fun x171 =>
      ldS xs L (x15 + 2) (fun x172 =>
      ldS xs L (x15 + 3) (fun x173 =>
      gd (k12 ≤ 601024 ∧ n13 ≤ 7293000) (gd (isO h11 z0 4 = true) ((FA_save h11 z0 x171 x172 x173).bind (fun r175 =>
      ldS xs L (x15 + 1) (fun x176 =>
      ldS xs L (x15 + 2) (fun x177 =>
      ldS xs L (x15 + 3) (fun x178 =>
      gd (k12 ≤ 601024 ∧ n13 ≤ 7293000) (gd (isO r175.1 r2.2 5 = true) ((FM_save r175.1 r2.2 x176 x177 x178).bind (fun r180 =>
      if r175.2 = r180.2 then
        (j22 r180.1 k12 n13 z14)
      else
        (none))))))))))))))
    else if ((x17 &&& 31)).toInt = 19 then
      (ldS xs L (x15 + 1) (fun x181 =>
      ldS xs L (x15 + 2) (fun x182 =>
      ldS xs L (x15 + 3) (fun x183 =>
      gd (k12 ≤ 601024 ∧ n13 ≤ 7293000) (gd (isO h11 z0 4 = true) ((FA_restore h11 z0 x181 x182 x183).bind (fun r185 =>
      ldS xs L (x15 + 1) (fun x186 =>
      ldS xs L (x15 + 2) (fun x187 =>
      ldS xs L (x15 + 3) (fun x188 =>
      gd (k12 ≤ 601024 ∧ n13 ≤ 7293000) (gd (isO r185.1 r2.2 5 = true) ((FM_restore r185.1 r2.2 x186 x187 x188).bind (fun r190 =>
      if r185.2 = r190.2 then
        (j22 r190.1 k12 n13 z14)
      else
        (none))))))))))))))
    else (j22 h11 k12 n13 z14))))
def FL_law (h0 : Hp) (z0 L : Nat) (xs : Nat → Int32) : Option Unit :=
  gd (0 + 1 ≤ 601024 ∧ 0 + 12 ≤ 7293000) (nw h0 z0 (.inr (4, [.int 0, .int 0, .null, .null, .null, .null, .null, .int 0, .int 0, .int 0, .null, .null])) (fun h1 =>
  gd ((0 + 1) ≤ 601024 ∧ (0 + 12) ≤ 7293000) (
  gd ((0 + 1) + 96 ≤ 601024 ∧ (0 + 12) + 20000 ≤ 7293000) ((FA_init 96 20000 h1 (z0 + 1) z0 (cv0 xs L)).bind (fun r2 =>
  gd (((0 + 1) + 96) + 1 ≤ 601024 ∧ ((0 + 12) + 20000) + 26 ≤ 7293000) (nw r2.1 r2.2 (.inr (5, [.int 0, .int 0, .int 0, .null, .null, .null, .null, .null, .null, .null, .null, .null, .null, .int 0, .null, .int 0, .int 0, .int 0, .int 0, .int 0, .int 0, .null, .null, .null, .null, .int 0])) (fun h3 =>
  gd ((((0 + 1) + 96) + 1) ≤ 601024 ∧ (((0 + 12) + 20000) + 26) ≤ 7293000) (
  gd ((((0 + 1) + 96) + 1) + 15 ≤ 601024 ∧ (((0 + 12) + 20000) + 26) + 20000 ≤ 7293000) ((FM_init 15 20000 h3 (r2.2 + 1) r2.2 (cv0 xs L)).bind (fun r4 =>
  gd ((0 ≤ (1 : Int32).toInt ∧ (1 : Int32).toInt ≤ 65536) ∧ ((((0 + 1) + 96) + 1) + 15) + 1 ≤ 601024 ∧ ((((0 + 12) + 20000) + 26) + 20000) + (1 : Int32).toNatClampNeg ≤ 7293000) (nw r4.1 r4.2 (.inl (2, (1 : Int32).toNatClampNeg, .inr (.inl (fun _ => 0)))) (fun h5 =>
  jn (fun (h6 : Hp) (k7 : Nat) (n8 : Nat) (z9 : Nat) =>
  gd (k7 ≤ 601024 ∧ n8 ≤ 7293000) (some ()))
  (fun (K10 : Hp → Nat → Nat → Nat → Option Unit) =>
  lpG (fun _ _ _ _ _ => none) fu (LL_law_33 z0 L xs r2 r4 K10) h5 (((((0 + 1) + 96) + 1) + 15) + 1) (((((0 + 12) + 20000) + 26) + 20000) + (1 : Int32).toNatClampNeg) (r4.2 + 1) 1)))))))))))))
set_option maxRecDepth 100000 in
set_option maxHeartbeats 16000000 in
/-- THE LAW from its entry, where its functional text answers -/
theorem law_walk {p : Program} {l : Launch} {e : Env} {s : State} {m : MethodId} {below : List Frame} {meth : Method} {c : Code} {D : va_G} {dA : Nat → ClassId} {b L : Nat} {xs : Nat → Int32} (h0 : Hp) (z0 : Nat) (Q : Unit → State → Prop) (hQ : Q = fun _ => lw_Z below #[Value.ref b] s)
    (C : vC p s m #[Value.ref b] meth c D dA (fun q : Nat => s.heap.size ≤ q) code 7 "AdaptiveTreesLaw" ret) (HX : va_X b L xs s s.heap ∧ b < s.heap.size ∧ ¬ (fun q : Nat => s.heap.size ≤ q) b)
    (hfl : l.flags = flags0) (hEx : vEx (fun q : Nat => s.heap.size ≤ q) s s.heap) :
    vO p l e room_1 s m #[Value.ref b] below meth c D dA (fun q : Nat => s.heap.size ≤ q) 7 False Q 0 0 h0 z0 [(0, .ref b)] 0 [] (FL_law h0 z0 L xs) := by
  unfold FL_law
  refine v_new C v_cl4 in_4 ty_4 ty_4_ok w_59 w_60 w_47 fs_4 dL_law_0 (fun h1 => ?_)
  refine v_dup C dL_law_3 rfl ?_
  refine v_aload_n C dL_law_4 rfl 0 rfl ?_
  refine v_iconst (v := 0) C dL_law_5 (by decide) ?_
  refine v_gd fun hcg => ?_
  refine v_cell C HX.1 HX.2.1 HX.2.2 hcg w_517 w_518 w_519 w_46 ⟨Nat.le_of_ble_eq_true rfl, Nat.le_of_ble_eq_true rfl⟩ (Nat.le_of_ble_eq_true rfl) dL_law_6 ?_
  refine v_gd fun hF => ?_
  refine v_bind fun r2 hr2 => ?_
  refine v_callI (N := 1) (As := [.int (cv0 xs L)]) (st := [.ref z0]) C (fun f => f.elim) (mA_init l 96 20000 h1 (z0 + 1) z0 (cv0 xs L) r2 hr2) rfl w_63 w_47 (by decide +kernel) ⟨Nat.le_of_ble_eq_true rfl, Nat.le_of_ble_eq_true rfl⟩ rfl rfl (Nat.le_of_ble_eq_true rfl) hF w_61 rfl w_62 dL_law_9 ?_
  refine v_astore_n (lv' := [(0, .ref b), (1, .ref z0)]) C dL_law_12 rfl (by decide) [1, 0] rfl ?_
  refine v_new C v_cl5 in_5 ty_5 ty_5_ok w_599 w_600 w_53 fs_5 dL_law_13 (fun h3 => ?_)
  refine v_dup C dL_law_16 rfl ?_
  refine v_aload_n C dL_law_17 rfl 0 rfl ?_
  refine v_iconst (v := 0) C dL_law_18 (by decide) ?_
  refine v_gd fun hcg => ?_
  refine v_cell C HX.1 HX.2.1 HX.2.2 hcg w_517 w_518 w_519 w_46 ⟨Nat.le_of_ble_eq_true rfl, Nat.le_of_ble_eq_true rfl⟩ (Nat.le_of_ble_eq_true rfl) dL_law_19 ?_
  refine v_gd fun hF => ?_
  refine v_bind fun r4 hr4 => ?_
  refine v_callI (N := 1) (As := [.int (cv0 xs L)]) (st := [.ref r2.2]) C (fun f => f.elim) (mM_init l 15 20000 h3 (r2.2 + 1) r2.2 (cv0 xs L) r4 hr4) rfl w_603 w_53 (by decide +kernel) ⟨Nat.le_of_ble_eq_true rfl, Nat.le_of_ble_eq_true rfl⟩ rfl rfl (Nat.le_of_ble_eq_true rfl) hF w_601 rfl w_602 dL_law_22 ?_
  refine v_astore_n (lv' := [(0, .ref b), (1, .ref z0), (2, .ref r2.2)]) C dL_law_25 rfl (by decide) [1, 2, 0] rfl ?_
  refine v_iconst (v := 1) C dL_law_26 (by decide) ?_
  refine v_newaL C rfl w_863 dL_law_27 (fun h5 => ?_)
  refine v_astore_n (lv' := [(0, .ref b), (1, .ref z0), (2, .ref r2.2), (3, .ref r4.2)]) C dL_law_29 rfl (by decide) [1, 2, 3, 0] rfl ?_
  refine v_iconst (v := 1) C dL_law_30 (by decide) ?_
  refine v_istore (lv' := [(0, .ref b), (1, .ref z0), (2, .ref r2.2), (3, .ref r4.2), (4, .int 1)]) C dL_law_31 (by decide) [1, 2, 3, 4, 0] rfl ?_
  refine v_jn (fun (j : Hp → Nat → Nat → Nat → Option Unit) => ∀ (h6 : Hp), ∀ (k7 : Nat), ∀ (n8 : Nat), ∀ (z9 : Nat), vO p l e room_1 s m #[Value.ref b] below meth c D dA (fun q : Nat => s.heap.size ≤ q) 7 False Q k7 n8 h6 z9 [] 913 [] (j h6 k7 n8 z9)) ?_ (fun K10 HK10 => ?_)
  · intro h6 k7 n8 z9
    refine v_iconst (v := 1) C dL_law_913 (by decide) ?_
    exact v_lend C hQ dL_law_914
  · refine lpG_ind (bot := (fun _ _ _ _ _ => none)) (B := LL_law_33 z0 L xs r2 r4 K10) (fun (r : Hp → Nat → Nat → Nat → Int32 → Option Unit) => ∀ (h11 : Hp), ∀ (k12 : Nat), ∀ (n13 : Nat), ∀ (z14 : Nat), ∀ (x15 : Int32), vO p l e room_1 s m #[Value.ref b] below meth c D dA (fun q : Nat => s.heap.size ≤ q) 7 False Q k12 n13 h11 z14 [(0, .ref b), (1, .ref z0), (2, .ref r2.2), (3, .ref r4.2), (4, .int x15)] 33 [] (r h11 k12 n13 z14 x15)) ?_ ?_ fu h5 (((((0 + 1) + 96) + 1) + 15) + 1) (((((0 + 12) + 20000) + 26) + 20000) + (1 : Int32).toNatClampNeg) (r4.2 + 1) 1
    · intro h11 k12 n13 z14 x15
      exact v_none
    · intro rec16 Hrec16 h11 k12 n13 z14 x15
      unfold LL_law_33
      refine v_iload C dL_law_33 4 rfl ?_
      refine v_aload_n C dL_law_35 rfl 0 rfl ?_
      refine v_slen C HX.1 HX.2.1 HX.2.2 dL_law_36 ?_
      refine v_iconst (v := 5) C dL_law_37 (by decide) ?_
      refine v_isub C dL_law_38 ?_
      refine v_icmp_gt (tgt := 913) C dL_law_39 (by decide) ?_ ?_
      · refine v_lv (lv' := []) [] rfl ?_
        exact HK10 h11 k12 n13 z14
      · refine v_aload_n C dL_law_42 rfl 0 rfl ?_
        refine v_iload C dL_law_43 4 rfl ?_
        refine v_sld C HX.1 HX.2.1 HX.2.2 dL_law_45 (fun x17 => ?_)
        refine v_bipush (v := 31) C dL_law_46 (by decide) ?_
        refine v_iand C dL_law_48 ?_
        refine v_jn (fun (j : Hp → Nat → Nat → Nat → Option Unit) => ∀ (h18 : Hp), ∀ (k19 : Nat), ∀ (n20 : Nat), ∀ (z21 : Nat), vO p l e room_1 s m #[Value.ref b] below meth c D dA (fun q : Nat => s.heap.size ≤ q) 7 False Q k19 n20 h18 z21 [(0, .ref b), (1, .ref z0), (2, .ref r2.2), (3, .ref r4.2), (4, .int x15)] 907 [] (j h18 k19 n20 z21)) ?_ (fun j22 Hj22 => ?_)
        · intro h18 k19 n20 z21
          refine v_iinc (v := (x15 + 5)) (lv' := [(0, .ref b), (1, .ref z0), (2, .ref r2.2), (3, .ref r4.2), (4, .int (x15 + 5))]) C dL_law_907 4 rfl rfl (by decide) [1, 2, 3, 4, 0] rfl ?_
          refine v_goto (tgt := 33) C dL_law_910 (by decide) ?_
          exact Hrec16 h18 k19 n20 z21 (x15 + 5)
        · refine v_swc 0 0 (tgt := 144) C dL_law_49 (by decide) (by decide) rfl (by decide) ?_ (fun hs0 => ?_)
          · refine v_aload_n C dL_law_144 rfl 1 rfl ?_
            refine v_aload_n C dL_law_145 rfl 0 rfl ?_
            refine v_iload C dL_law_146 4 rfl ?_
            refine v_iconst (v := 1) C dL_law_148 (by decide) ?_
            refine v_iadd C dL_law_149 ?_
            refine v_sld C HX.1 HX.2.1 HX.2.2 dL_law_150 (fun x23 => ?_)
            refine v_aload_n C dL_law_151 rfl 0 rfl ?_
            refine v_iload C dL_law_152 4 rfl ?_
            refine v_iconst (v := 2) C dL_law_154 (by decide) ?_
            refine v_iadd C dL_law_155 ?_
            refine v_sld C HX.1 HX.2.1 HX.2.2 dL_law_156 (fun x24 => ?_)
            refine v_gd fun HCS => ?_
            refine v_gd fun hO25 => ?_
            refine v_bind fun r26 hr26 => ?_
            refine v_callV0 (N := 2) (As := [.int x23, .int x24]) (st := []) C (fun f => f.elim) (mA_form l h11 z14 z0 x23 x24 r26 hr26) rfl w_241 w_47 (by decide +kernel) ⟨Nat.le_of_ble_eq_true rfl, Nat.le_of_ble_eq_true rfl⟩ rfl rfl (Nat.le_of_ble_eq_true rfl) HCS w_238 w_239 w_240 v_cl4 rfl hO25 dL_law_157 ?_
            refine v_aload_n C dL_law_160 rfl 2 rfl ?_
            refine v_aload_n C dL_law_161 rfl 0 rfl ?_
            refine v_iload C dL_law_162 4 rfl ?_
            refine v_iconst (v := 1) C dL_law_164 (by decide) ?_
            refine v_iadd C dL_law_165 ?_
            refine v_sld C HX.1 HX.2.1 HX.2.2 dL_law_166 (fun x27 => ?_)
            refine v_aload_n C dL_law_167 rfl 0 rfl ?_
            refine v_iload C dL_law_168 4 rfl ?_
            refine v_iconst (v := 2) C dL_law_170 (by decide) ?_
            refine v_iadd C dL_law_171 ?_
            refine v_sld C HX.1 HX.2.1 HX.2.2 dL_law_172 (fun x28 => ?_)
            refine v_gd fun HCS => ?_
            refine v_gd fun hO29 => ?_
            refine v_bind fun r30 hr30 => ?_
            refine v_callV0 (N := 2) (As := [.int x27, .int x28]) (st := [.int r26.2]) C (fun f => f.elim) (mM_form l r26.1 z14 r2.2 x27 x28 r30 hr30) rfl w_695 w_53 (by decide +kernel) ⟨Nat.le_of_ble_eq_true rfl, Nat.le_of_ble_eq_true rfl⟩ rfl rfl (Nat.le_of_ble_eq_true rfl) HCS w_692 w_693 w_694 v_cl5 rfl hO29 dL_law_173 ?_
            refine v_icmp_eq (tgt := 907) C dL_law_176 (by decide) ?_ ?_
            · exact Hj22 r30.1 k12 n13 z14
            · refine v_iconst (v := 0) C dL_law_179 (by decide) ?_
              exact v_none
          refine v_swc 1 1 (tgt := 181) C dL_law_49 (by decide) (by decide) rfl (by decide) ?_ (fun hs1 => ?_)
          · refine v_aload_n C dL_law_181 rfl 1 rfl ?_
            refine v_aload_n C dL_law_182 rfl 0 rfl ?_
            refine v_iload C dL_law_183 4 rfl ?_
            refine v_iconst (v := 1) C dL_law_185 (by decide) ?_
            refine v_iadd C dL_law_186 ?_
            refine v_sld C HX.1 HX.2.1 HX.2.2 dL_law_187 (fun x31 => ?_)
            refine v_gd fun HCS => ?_
            refine v_gd fun hO32 => ?_
            refine v_bind fun r33 hr33 => ?_
            refine v_callV0 (N := 1) (As := [.int x31]) (st := []) C (fun f => f.elim) (mA_limit l h11 z14 z0 x31 r33 hr33) rfl w_264 w_47 (by decide +kernel) ⟨Nat.le_of_ble_eq_true rfl, Nat.le_of_ble_eq_true rfl⟩ rfl rfl (Nat.le_of_ble_eq_true rfl) HCS w_261 w_262 w_263 v_cl4 rfl hO32 dL_law_188 ?_
            refine v_aload_n C dL_law_191 rfl 2 rfl ?_
            refine v_aload_n C dL_law_192 rfl 0 rfl ?_
            refine v_iload C dL_law_193 4 rfl ?_
            refine v_iconst (v := 1) C dL_law_195 (by decide) ?_
            refine v_iadd C dL_law_196 ?_
            refine v_sld C HX.1 HX.2.1 HX.2.2 dL_law_197 (fun x34 => ?_)
            refine v_gd fun HCS => ?_
            refine v_gd fun hO35 => ?_
            refine v_bind fun r36 hr36 => ?_
            refine v_callV0 (N := 1) (As := [.int x34]) (st := [.int r33.2]) C (fun f => f.elim) (mM_limit l r33.1 z14 r2.2 x34 r36 hr36) rfl w_702 w_53 (by decide +kernel) ⟨Nat.le_of_ble_eq_true rfl, Nat.le_of_ble_eq_true rfl⟩ rfl rfl (Nat.le_of_ble_eq_true rfl) HCS w_699 w_700 w_701 v_cl5 rfl hO35 dL_law_198 ?_
            refine v_icmp_eq (tgt := 907) C dL_law_201 (by decide) ?_ ?_
            · exact Hj22 r36.1 k12 n13 z14
            · refine v_iconst (v := 0) C dL_law_204 (by decide) ?_
              exact v_none
          refine v_swc 2 2 (tgt := 206) C dL_law_49 (by decide) (by decide) rfl (by decide) ?_ (fun hs2 => ?_)
          · refine v_aload_n C dL_law_206 rfl 1 rfl ?_
            refine v_aload_n C dL_law_207 rfl 0 rfl ?_
            refine v_iload C dL_law_208 4 rfl ?_
            refine v_iconst (v := 1) C dL_law_210 (by decide) ?_
            refine v_iadd C dL_law_211 ?_
            refine v_sld C HX.1 HX.2.1 HX.2.2 dL_law_212 (fun x37 => ?_)
            refine v_aload_n C dL_law_213 rfl 0 rfl ?_
            refine v_iload C dL_law_214 4 rfl ?_
            refine v_iconst (v := 2) C dL_law_216 (by decide) ?_
            refine v_iadd C dL_law_217 ?_
            refine v_sld C HX.1 HX.2.1 HX.2.2 dL_law_218 (fun x38 => ?_)
            refine v_gd fun HCS => ?_
            refine v_gd fun hO39 => ?_
            refine v_bind fun r40 hr40 => ?_
            refine v_callV0 (N := 2) (As := [.int x37, .int x38]) (st := []) C (fun f => f.elim) (mA_put l h11 z14 z0 x37 x38 r40 hr40) rfl w_269 w_47 (by decide +kernel) ⟨Nat.le_of_ble_eq_true rfl, Nat.le_of_ble_eq_true rfl⟩ rfl rfl (Nat.le_of_ble_eq_true rfl) HCS w_266 w_267 w_268 v_cl4 rfl hO39 dL_law_219 ?_
            refine v_aload_n C dL_law_222 rfl 2 rfl ?_
            refine v_aload_n C dL_law_223 rfl 0 rfl ?_
            refine v_iload C dL_law_224 4 rfl ?_
            refine v_iconst (v := 1) C dL_law_226 (by decide) ?_
            refine v_iadd C dL_law_227 ?_
            refine v_sld C HX.1 HX.2.1 HX.2.2 dL_law_228 (fun x41 => ?_)
            refine v_aload_n C dL_law_229 rfl 0 rfl ?_
            refine v_iload C dL_law_230 4 rfl ?_
            refine v_iconst (v := 2) C dL_law_232 (by decide) ?_
            refine v_iadd C dL_law_233 ?_
            refine v_sld C HX.1 HX.2.1 HX.2.2 dL_law_234 (fun x42 => ?_)
            refine v_gd fun HCS => ?_
            refine v_gd fun hO43 => ?_
            refine v_bind fun r44 hr44 => ?_
            refine v_callV0 (N := 2) (As := [.int x41, .int x42]) (st := [.int r40.2]) C (fun f => f.elim) (mM_put l r40.1 z14 r2.2 x41 x42 r44 hr44) rfl w_707 w_53 (by decide +kernel) ⟨Nat.le_of_ble_eq_true rfl, Nat.le_of_ble_eq_true rfl⟩ rfl rfl (Nat.le_of_ble_eq_true rfl) HCS w_704 w_705 w_706 v_cl5 rfl hO43 dL_law_235 ?_
            refine v_icmp_eq (tgt := 907) C dL_law_238 (by decide) ?_ ?_
            · exact Hj22 r44.1 k12 n13 z14
            · refine v_iconst (v := 0) C dL_law_241 (by decide) ?_
              exact v_none
          refine v_swc 3 3 (tgt := 243) C dL_law_49 (by decide) (by decide) rfl (by decide) ?_ (fun hs3 => ?_)
          · refine v_aload_n C dL_law_243 rfl 1 rfl ?_
            refine v_gd fun HCS => ?_
            refine v_gd fun hO45 => ?_
            refine v_bind fun r46 hr46 => ?_
            refine v_callV0 (N := 0) (As := []) (st := []) C (fun _ => trivial) (mA_bits l h11 z14 z0 r46 hr46) rfl w_385 w_47 (by decide +kernel) ⟨Nat.le_of_ble_eq_true rfl, Nat.le_of_ble_eq_true rfl⟩ rfl rfl (Nat.le_of_ble_eq_true rfl) HCS w_382 w_383 w_384 v_cl4 rfl hO45 dL_law_244 ?_
            refine v_aload_n C dL_law_247 rfl 2 rfl ?_
            refine v_gd fun HCS => ?_
            refine v_gd fun hO47 => ?_
            refine v_bind fun r48 hr48 => ?_
            refine v_callV0 (N := 0) (As := []) (st := [.int r46]) C (fun f => f.elim) (mM_bits l h11 z14 r2.2 r48 hr48) rfl w_771 w_53 (by decide +kernel) ⟨Nat.le_of_ble_eq_true rfl, Nat.le_of_ble_eq_true rfl⟩ rfl rfl (Nat.le_of_ble_eq_true rfl) HCS w_768 w_769 w_770 v_cl5 rfl hO47 dL_law_248 ?_
            refine v_icmp_eq (tgt := 907) C dL_law_251 (by decide) ?_ ?_
            · exact Hj22 r48.1 k12 n13 z14
            · refine v_iconst (v := 0) C dL_law_254 (by decide) ?_
              exact v_none
          refine v_swc 4 4 (tgt := 256) C dL_law_49 (by decide) (by decide) rfl (by decide) ?_ (fun hs4 => ?_)
          · refine v_aload_n C dL_law_256 rfl 1 rfl ?_
            refine v_aload_n C dL_law_257 rfl 0 rfl ?_
            refine v_iload C dL_law_258 4 rfl ?_
            refine v_iconst (v := 1) C dL_law_260 (by decide) ?_
            refine v_iadd C dL_law_261 ?_
            refine v_sld C HX.1 HX.2.1 HX.2.2 dL_law_262 (fun x49 => ?_)
            refine v_gd fun HCS => ?_
            refine v_gd fun hO50 => ?_
            refine v_bind fun r51 hr51 => ?_
            refine v_callV0 (N := 1) (As := [.int x49]) (st := []) C (fun _ => trivial) (mA_bit l h11 z14 z0 x49 r51 hr51) rfl w_389 w_47 (by decide +kernel) ⟨Nat.le_of_ble_eq_true rfl, Nat.le_of_ble_eq_true rfl⟩ rfl rfl (Nat.le_of_ble_eq_true rfl) HCS w_386 w_387 w_388 v_cl4 rfl hO50 dL_law_263 ?_
            refine v_aload_n C dL_law_266 rfl 2 rfl ?_
            refine v_aload_n C dL_law_267 rfl 0 rfl ?_
            refine v_iload C dL_law_268 4 rfl ?_
            refine v_iconst (v := 1) C dL_law_270 (by decide) ?_
            refine v_iadd C dL_law_271 ?_
            refine v_sld C HX.1 HX.2.1 HX.2.2 dL_law_272 (fun x52 => ?_)
            refine v_gd fun HCS => ?_
            refine v_gd fun hO53 => ?_
            refine v_bind fun r54 hr54 => ?_
            refine v_callV0 (N := 1) (As := [.int x52]) (st := [.int r51]) C (fun f => f.elim) (mM_bit l h11 z14 r2.2 x52 r54 hr54) rfl w_775 w_53 (by decide +kernel) ⟨Nat.le_of_ble_eq_true rfl, Nat.le_of_ble_eq_true rfl⟩ rfl rfl (Nat.le_of_ble_eq_true rfl) HCS w_772 w_773 w_774 v_cl5 rfl hO53 dL_law_273 ?_
            refine v_icmp_eq (tgt := 907) C dL_law_276 (by decide) ?_ ?_
            · exact Hj22 r54.1 k12 n13 z14
            · refine v_iconst (v := 0) C dL_law_279 (by decide) ?_
              exact v_none
          refine v_swc 5 5 (tgt := 281) C dL_law_49 (by decide) (by decide) rfl (by decide) ?_ (fun hs5 => ?_)
          · refine v_aload_n C dL_law_281 rfl 1 rfl ?_
            refine v_gd fun HCS => ?_
            refine v_gd fun hO55 => ?_
            refine v_bind fun r56 hr56 => ?_
            refine v_callV0 (N := 0) (As := []) (st := []) C (fun f => f.elim) (mA_drop l h11 z14 z0 r56 hr56) rfl w_393 w_47 (by decide +kernel) ⟨Nat.le_of_ble_eq_true rfl, Nat.le_of_ble_eq_true rfl⟩ rfl rfl (Nat.le_of_ble_eq_true rfl) HCS w_390 w_391 w_392 v_cl4 rfl hO55 dL_law_282 ?_
            refine v_aload_n C dL_law_285 rfl 2 rfl ?_
            refine v_gd fun HCS => ?_
            refine v_gd fun hO57 => ?_
            refine v_bind fun r58 hr58 => ?_
            refine v_callV0 (N := 0) (As := []) (st := [.int r56.2]) C (fun f => f.elim) (mM_drop l r56.1 z14 r2.2 r58 hr58) rfl w_779 w_53 (by decide +kernel) ⟨Nat.le_of_ble_eq_true rfl, Nat.le_of_ble_eq_true rfl⟩ rfl rfl (Nat.le_of_ble_eq_true rfl) HCS w_776 w_777 w_778 v_cl5 rfl hO57 dL_law_286 ?_
            refine v_icmp_eq (tgt := 907) C dL_law_289 (by decide) ?_ ?_
            · exact Hj22 r58.1 k12 n13 z14
            · refine v_iconst (v := 0) C dL_law_292 (by decide) ?_
              exact v_none
          refine v_swc 6 6 (tgt := 294) C dL_law_49 (by decide) (by decide) rfl (by decide) ?_ (fun hs6 => ?_)
          · refine v_aload_n C dL_law_294 rfl 1 rfl ?_
            refine v_aload_n C dL_law_295 rfl 0 rfl ?_
            refine v_iload C dL_law_296 4 rfl ?_
            refine v_iconst (v := 1) C dL_law_298 (by decide) ?_
            refine v_iadd C dL_law_299 ?_
            refine v_sld C HX.1 HX.2.1 HX.2.2 dL_law_300 (fun x59 => ?_)
            refine v_aload_n C dL_law_301 rfl 0 rfl ?_
            refine v_iload C dL_law_302 4 rfl ?_
            refine v_iconst (v := 2) C dL_law_304 (by decide) ?_
            refine v_iadd C dL_law_305 ?_
            refine v_sld C HX.1 HX.2.1 HX.2.2 dL_law_306 (fun x60 => ?_)
            refine v_jn (fun (j : Int32 → Int32 → Nat → Option Unit) => ∀ (y61 : Int32), ∀ (y62 : Int32), ∀ (b63 : Nat), vO p l e room_1 s m #[Value.ref b] below meth c D dA (fun q : Nat => s.heap.size ≤ q) 7 False Q k12 n13 h11 z14 [(0, .ref b), (1, .ref z0), (2, .ref r2.2), (3, .ref r4.2), (4, .int x15)] 315 [.int y61, .int y62, .ref b63] (j y61 y62 b63)) ?_ (fun j64 Hj64 => ?_)
            · intro y61 y62 b63
              refine v_gd fun HCS => ?_
              refine v_gd fun hO65 => ?_
              refine v_bind fun r66 hr66 => ?_
              refine v_callV0 (N := 2) (As := [.int y62, .int y61]) (st := []) C (fun f => f.elim) (mA_get l h11 z14 b63 y62 y61 r66 hr66) rfl w_398 w_47 (by decide +kernel) ⟨Nat.le_of_ble_eq_true rfl, Nat.le_of_ble_eq_true rfl⟩ rfl rfl (Nat.le_of_ble_eq_true rfl) HCS w_395 w_396 w_397 v_cl4 rfl hO65 dL_law_315 ?_
              refine v_aload_n C dL_law_318 rfl 2 rfl ?_
              refine v_aload_n C dL_law_319 rfl 0 rfl ?_
              refine v_iload C dL_law_320 4 rfl ?_
              refine v_iconst (v := 1) C dL_law_322 (by decide) ?_
              refine v_iadd C dL_law_323 ?_
              refine v_sld C HX.1 HX.2.1 HX.2.2 dL_law_324 (fun x67 => ?_)
              refine v_aload_n C dL_law_325 rfl 0 rfl ?_
              refine v_iload C dL_law_326 4 rfl ?_
              refine v_iconst (v := 2) C dL_law_328 (by decide) ?_
              refine v_iadd C dL_law_329 ?_
              refine v_sld C HX.1 HX.2.1 HX.2.2 dL_law_330 (fun x68 => ?_)
              refine v_jn (fun (j : Int32 → Int32 → Nat → Int32 → Option Unit) => ∀ (y69 : Int32), ∀ (y70 : Int32), ∀ (b71 : Nat), ∀ (y72 : Int32), vO p l e room_1 s m #[Value.ref b] below meth c D dA (fun q : Nat => s.heap.size ≤ q) 7 False Q k12 n13 r66.1 z14 [(0, .ref b), (1, .ref z0), (2, .ref r2.2), (3, .ref r4.2), (4, .int x15)] 339 [.int y69, .int y70, .ref b71, .int y72] (j y69 y70 b71 y72)) ?_ (fun j73 Hj73 => ?_)
              · intro y69 y70 b71 y72
                refine v_gd fun HCS => ?_
                refine v_gd fun hO74 => ?_
                refine v_bind fun r75 hr75 => ?_
                refine v_callV0 (N := 2) (As := [.int y70, .int y69]) (st := [.int y72]) C (fun f => f.elim) (mM_get l r66.1 z14 b71 y70 y69 r75 hr75) rfl w_783 w_53 (by decide +kernel) ⟨Nat.le_of_ble_eq_true rfl, Nat.le_of_ble_eq_true rfl⟩ rfl rfl (Nat.le_of_ble_eq_true rfl) HCS w_780 w_781 w_782 v_cl5 rfl hO74 dL_law_339 ?_
                refine v_icmp_eq (tgt := 907) C dL_law_342 (by decide) ?_ ?_
                · exact Hj22 r75.1 k12 n13 z14
                · refine v_iconst (v := 0) C dL_law_345 (by decide) ?_
                  exact v_none
              · refine v_if_eq (tgt := 338) C dL_law_331 (by decide) ?_ ?_
                · refine v_iconst (v := 0) C dL_law_338 (by decide) ?_
                  exact Hj73 0 x67 r2.2 r66.2
                · refine v_iconst (v := 1) C dL_law_334 (by decide) ?_
                  refine v_goto (tgt := 339) C dL_law_335 (by decide) ?_
                  exact Hj73 1 x67 r2.2 r66.2
            · refine v_if_eq (tgt := 314) C dL_law_307 (by decide) ?_ ?_
              · refine v_iconst (v := 0) C dL_law_314 (by decide) ?_
                exact Hj64 0 x59 z0
              · refine v_iconst (v := 1) C dL_law_310 (by decide) ?_
                refine v_goto (tgt := 315) C dL_law_311 (by decide) ?_
                exact Hj64 1 x59 z0
          refine v_swc 7 7 (tgt := 347) C dL_law_49 (by decide) (by decide) rfl (by decide) ?_ (fun hs7 => ?_)
          · refine v_aload_n C dL_law_347 rfl 1 rfl ?_
            refine v_aload_n C dL_law_348 rfl 0 rfl ?_
            refine v_iload C dL_law_349 4 rfl ?_
            refine v_iconst (v := 1) C dL_law_351 (by decide) ?_
            refine v_iadd C dL_law_352 ?_
            refine v_sld C HX.1 HX.2.1 HX.2.2 dL_law_353 (fun x76 => ?_)
            refine v_gd fun HCS => ?_
            refine v_gd fun hO77 => ?_
            refine v_bind fun r78 hr78 => ?_
            refine v_callV0 (N := 1) (As := [.int x76]) (st := []) C (fun f => f.elim) (mA_pull l h11 z14 z0 x76 r78 hr78) rfl w_424 w_47 (by decide +kernel) ⟨Nat.le_of_ble_eq_true rfl, Nat.le_of_ble_eq_true rfl⟩ rfl rfl (Nat.le_of_ble_eq_true rfl) HCS w_421 w_422 w_423 v_cl4 rfl hO77 dL_law_354 ?_
            refine v_aload_n C dL_law_357 rfl 2 rfl ?_
            refine v_aload_n C dL_law_358 rfl 0 rfl ?_
            refine v_iload C dL_law_359 4 rfl ?_
            refine v_iconst (v := 1) C dL_law_361 (by decide) ?_
            refine v_iadd C dL_law_362 ?_
            refine v_sld C HX.1 HX.2.1 HX.2.2 dL_law_363 (fun x79 => ?_)
            refine v_gd fun HCS => ?_
            refine v_gd fun hO80 => ?_
            refine v_bind fun r81 hr81 => ?_
            refine v_callV0 (N := 1) (As := [.int x79]) (st := [.int r78.2]) C (fun f => f.elim) (mM_pull l r78.1 z14 r2.2 x79 r81 hr81) rfl w_799 w_53 (by decide +kernel) ⟨Nat.le_of_ble_eq_true rfl, Nat.le_of_ble_eq_true rfl⟩ rfl rfl (Nat.le_of_ble_eq_true rfl) HCS w_796 w_797 w_798 v_cl5 rfl hO80 dL_law_364 ?_
            refine v_icmp_eq (tgt := 907) C dL_law_367 (by decide) ?_ ?_
            · exact Hj22 r81.1 k12 n13 z14
            · refine v_iconst (v := 0) C dL_law_370 (by decide) ?_
              exact v_none
          refine v_swc 8 8 (tgt := 372) C dL_law_49 (by decide) (by decide) rfl (by decide) ?_ (fun hs8 => ?_)
          · refine v_aload_n C dL_law_372 rfl 1 rfl ?_
            refine v_gd fun HCS => ?_
            refine v_gd fun hO82 => ?_
            refine v_bind fun r83 hr83 => ?_
            refine v_callV0 (N := 0) (As := []) (st := []) C (fun _ => trivial) (mA_pulled l h11 z14 z0 r83 hr83) rfl w_428 w_47 (by decide +kernel) ⟨Nat.le_of_ble_eq_true rfl, Nat.le_of_ble_eq_true rfl⟩ rfl rfl (Nat.le_of_ble_eq_true rfl) HCS w_425 w_426 w_427 v_cl4 rfl hO82 dL_law_373 ?_
            refine v_aload_n C dL_law_376 rfl 2 rfl ?_
            refine v_gd fun HCS => ?_
            refine v_gd fun hO84 => ?_
            refine v_bind fun r85 hr85 => ?_
            refine v_callV0 (N := 0) (As := []) (st := [.int r83]) C (fun f => f.elim) (mM_pulled l h11 z14 r2.2 r85 hr85) rfl w_803 w_53 (by decide +kernel) ⟨Nat.le_of_ble_eq_true rfl, Nat.le_of_ble_eq_true rfl⟩ rfl rfl (Nat.le_of_ble_eq_true rfl) HCS w_800 w_801 w_802 v_cl5 rfl hO84 dL_law_377 ?_
            refine v_icmp_eq (tgt := 907) C dL_law_380 (by decide) ?_ ?_
            · exact Hj22 r85.1 k12 n13 z14
            · refine v_iconst (v := 0) C dL_law_383 (by decide) ?_
              exact v_none
          refine v_swc 9 9 (tgt := 385) C dL_law_49 (by decide) (by decide) rfl (by decide) ?_ (fun hs9 => ?_)
          · refine v_aload_n C dL_law_385 rfl 1 rfl ?_
            refine v_aload_n C dL_law_386 rfl 0 rfl ?_
            refine v_iload C dL_law_387 4 rfl ?_
            refine v_iconst (v := 1) C dL_law_389 (by decide) ?_
            refine v_iadd C dL_law_390 ?_
            refine v_sld C HX.1 HX.2.1 HX.2.2 dL_law_391 (fun x86 => ?_)
            refine v_aload_n C dL_law_392 rfl 0 rfl ?_
            refine v_iload C dL_law_393 4 rfl ?_
            refine v_iconst (v := 2) C dL_law_395 (by decide) ?_
            refine v_iadd C dL_law_396 ?_
            refine v_sld C HX.1 HX.2.1 HX.2.2 dL_law_397 (fun x87 => ?_)
            refine v_aload_n C dL_law_398 rfl 0 rfl ?_
            refine v_iload C dL_law_399 4 rfl ?_
            refine v_iconst (v := 3) C dL_law_401 (by decide) ?_
            refine v_iadd C dL_law_402 ?_
            refine v_sld C HX.1 HX.2.1 HX.2.2 dL_law_403 (fun x88 => ?_)
            refine v_gd fun HCS => ?_
            refine v_gd fun hO89 => ?_
            refine v_bind fun r90 hr90 => ?_
            refine v_callV0 (N := 3) (As := [.int x86, .int x87, .int x88]) (st := []) C (fun f => f.elim) (mA_cost l h11 z14 z0 x86 x87 x88 r90 hr90) rfl w_432 w_47 (by decide +kernel) ⟨Nat.le_of_ble_eq_true rfl, Nat.le_of_ble_eq_true rfl⟩ rfl rfl (Nat.le_of_ble_eq_true rfl) HCS w_429 w_430 w_431 v_cl4 rfl hO89 dL_law_404 ?_
            refine v_aload_n C dL_law_407 rfl 2 rfl ?_
            refine v_aload_n C dL_law_408 rfl 0 rfl ?_
            refine v_iload C dL_law_409 4 rfl ?_
            refine v_iconst (v := 1) C dL_law_411 (by decide) ?_
            refine v_iadd C dL_law_412 ?_
            refine v_sld C HX.1 HX.2.1 HX.2.2 dL_law_413 (fun x91 => ?_)
            refine v_aload_n C dL_law_414 rfl 0 rfl ?_
            refine v_iload C dL_law_415 4 rfl ?_
            refine v_iconst (v := 2) C dL_law_417 (by decide) ?_
            refine v_iadd C dL_law_418 ?_
            refine v_sld C HX.1 HX.2.1 HX.2.2 dL_law_419 (fun x92 => ?_)
            refine v_aload_n C dL_law_420 rfl 0 rfl ?_
            refine v_iload C dL_law_421 4 rfl ?_
            refine v_iconst (v := 3) C dL_law_423 (by decide) ?_
            refine v_iadd C dL_law_424 ?_
            refine v_sld C HX.1 HX.2.1 HX.2.2 dL_law_425 (fun x93 => ?_)
            refine v_gd fun HCS => ?_
            refine v_gd fun hO94 => ?_
            refine v_bind fun r95 hr95 => ?_
            refine v_callV0 (N := 3) (As := [.int x91, .int x92, .int x93]) (st := [.int r90.2]) C (fun f => f.elim) (mM_cost l r90.1 z14 r2.2 x91 x92 x93 r95 hr95) rfl w_807 w_53 (by decide +kernel) ⟨Nat.le_of_ble_eq_true rfl, Nat.le_of_ble_eq_true rfl⟩ rfl rfl (Nat.le_of_ble_eq_true rfl) HCS w_804 w_805 w_806 v_cl5 rfl hO94 dL_law_426 ?_
            refine v_icmp_eq (tgt := 907) C dL_law_429 (by decide) ?_ ?_
            · exact Hj22 r95.1 k12 n13 z14
            · refine v_iconst (v := 0) C dL_law_432 (by decide) ?_
              exact v_none
          refine v_swc 10 10 (tgt := 434) C dL_law_49 (by decide) (by decide) rfl (by decide) ?_ (fun hs10 => ?_)
          · refine v_aload_n C dL_law_434 rfl 1 rfl ?_
            refine v_aload_n C dL_law_435 rfl 0 rfl ?_
            refine v_iload C dL_law_436 4 rfl ?_
            refine v_iconst (v := 1) C dL_law_438 (by decide) ?_
            refine v_iadd C dL_law_439 ?_
            refine v_sld C HX.1 HX.2.1 HX.2.2 dL_law_440 (fun x96 => ?_)
            refine v_aload_n C dL_law_441 rfl 0 rfl ?_
            refine v_iload C dL_law_442 4 rfl ?_
            refine v_iconst (v := 2) C dL_law_444 (by decide) ?_
            refine v_iadd C dL_law_445 ?_
            refine v_sld C HX.1 HX.2.1 HX.2.2 dL_law_446 (fun x97 => ?_)
            refine v_aload_n C dL_law_447 rfl 0 rfl ?_
            refine v_iload C dL_law_448 4 rfl ?_
            refine v_iconst (v := 3) C dL_law_450 (by decide) ?_
            refine v_iadd C dL_law_451 ?_
            refine v_sld C HX.1 HX.2.1 HX.2.2 dL_law_452 (fun x98 => ?_)
            refine v_aload_n C dL_law_453 rfl 0 rfl ?_
            refine v_iload C dL_law_454 4 rfl ?_
            refine v_iconst (v := 4) C dL_law_456 (by decide) ?_
            refine v_iadd C dL_law_457 ?_
            refine v_sld C HX.1 HX.2.1 HX.2.2 dL_law_458 (fun x99 => ?_)
            refine v_gd fun HCS => ?_
            refine v_gd fun hO100 => ?_
            refine v_bind fun r101 hr101 => ?_
            refine v_callV0 (N := 4) (As := [.int x96, .int x97, .int x98, .int x99]) (st := []) C (fun f => f.elim) (mA_code l h11 z14 z0 x96 x97 x98 x99 r101 hr101) rfl w_443 w_47 (by decide +kernel) ⟨Nat.le_of_ble_eq_true rfl, Nat.le_of_ble_eq_true rfl⟩ rfl rfl (Nat.le_of_ble_eq_true rfl) HCS w_440 w_441 w_442 v_cl4 rfl hO100 dL_law_459 ?_
            refine v_aload_n C dL_law_462 rfl 2 rfl ?_
            refine v_aload_n C dL_law_463 rfl 0 rfl ?_
            refine v_iload C dL_law_464 4 rfl ?_
            refine v_iconst (v := 1) C dL_law_466 (by decide) ?_
            refine v_iadd C dL_law_467 ?_
            refine v_sld C HX.1 HX.2.1 HX.2.2 dL_law_468 (fun x102 => ?_)
            refine v_aload_n C dL_law_469 rfl 0 rfl ?_
            refine v_iload C dL_law_470 4 rfl ?_
            refine v_iconst (v := 2) C dL_law_472 (by decide) ?_
            refine v_iadd C dL_law_473 ?_
            refine v_sld C HX.1 HX.2.1 HX.2.2 dL_law_474 (fun x103 => ?_)
            refine v_aload_n C dL_law_475 rfl 0 rfl ?_
            refine v_iload C dL_law_476 4 rfl ?_
            refine v_iconst (v := 3) C dL_law_478 (by decide) ?_
            refine v_iadd C dL_law_479 ?_
            refine v_sld C HX.1 HX.2.1 HX.2.2 dL_law_480 (fun x104 => ?_)
            refine v_aload_n C dL_law_481 rfl 0 rfl ?_
            refine v_iload C dL_law_482 4 rfl ?_
            refine v_iconst (v := 4) C dL_law_484 (by decide) ?_
            refine v_iadd C dL_law_485 ?_
            refine v_sld C HX.1 HX.2.1 HX.2.2 dL_law_486 (fun x105 => ?_)
            refine v_gd fun HCS => ?_
            refine v_gd fun hO106 => ?_
            refine v_bind fun r107 hr107 => ?_
            refine v_callV0 (N := 4) (As := [.int x102, .int x103, .int x104, .int x105]) (st := [.int r101.2]) C (fun f => f.elim) (mM_code l r101.1 z14 r2.2 x102 x103 x104 x105 r107 hr107) rfl w_814 w_53 (by decide +kernel) ⟨Nat.le_of_ble_eq_true rfl, Nat.le_of_ble_eq_true rfl⟩ rfl rfl (Nat.le_of_ble_eq_true rfl) HCS w_811 w_812 w_813 v_cl5 rfl hO106 dL_law_487 ?_
            refine v_icmp_eq (tgt := 907) C dL_law_490 (by decide) ?_ ?_
            · exact Hj22 r107.1 k12 n13 z14
            · refine v_iconst (v := 0) C dL_law_493 (by decide) ?_
              exact v_none
          refine v_swc 11 11 (tgt := 495) C dL_law_49 (by decide) (by decide) rfl (by decide) ?_ (fun hs11 => ?_)
          · refine v_aload_n C dL_law_495 rfl 1 rfl ?_
            refine v_aload_n C dL_law_496 rfl 0 rfl ?_
            refine v_iload C dL_law_497 4 rfl ?_
            refine v_iconst (v := 1) C dL_law_499 (by decide) ?_
            refine v_iadd C dL_law_500 ?_
            refine v_sld C HX.1 HX.2.1 HX.2.2 dL_law_501 (fun x108 => ?_)
            refine v_aload_n C dL_law_502 rfl 0 rfl ?_
            refine v_iload C dL_law_503 4 rfl ?_
            refine v_iconst (v := 2) C dL_law_505 (by decide) ?_
            refine v_iadd C dL_law_506 ?_
            refine v_sld C HX.1 HX.2.1 HX.2.2 dL_law_507 (fun x109 => ?_)
            refine v_aload_n C dL_law_508 rfl 0 rfl ?_
            refine v_iload C dL_law_509 4 rfl ?_
            refine v_iconst (v := 3) C dL_law_511 (by decide) ?_
            refine v_iadd C dL_law_512 ?_
            refine v_sld C HX.1 HX.2.1 HX.2.2 dL_law_513 (fun x110 => ?_)
            refine v_gd fun HCS => ?_
            refine v_gd fun hO111 => ?_
            refine v_bind fun r112 hr112 => ?_
            refine v_callV0 (N := 3) (As := [.int x108, .int x109, .int x110]) (st := []) C (fun _ => trivial) (mA_knows l h11 z14 z0 x108 x109 x110 r112 hr112) rfl w_447 w_47 (by decide +kernel) ⟨Nat.le_of_ble_eq_true rfl, Nat.le_of_ble_eq_true rfl⟩ rfl rfl (Nat.le_of_ble_eq_true rfl) HCS w_444 w_445 w_446 v_cl4 rfl hO111 dL_law_514 ?_
            refine v_aload_n C dL_law_517 rfl 2 rfl ?_
            refine v_aload_n C dL_law_518 rfl 0 rfl ?_
            refine v_iload C dL_law_519 4 rfl ?_
            refine v_iconst (v := 1) C dL_law_521 (by decide) ?_
            refine v_iadd C dL_law_522 ?_
            refine v_sld C HX.1 HX.2.1 HX.2.2 dL_law_523 (fun x113 => ?_)
            refine v_aload_n C dL_law_524 rfl 0 rfl ?_
            refine v_iload C dL_law_525 4 rfl ?_
            refine v_iconst (v := 2) C dL_law_527 (by decide) ?_
            refine v_iadd C dL_law_528 ?_
            refine v_sld C HX.1 HX.2.1 HX.2.2 dL_law_529 (fun x114 => ?_)
            refine v_aload_n C dL_law_530 rfl 0 rfl ?_
            refine v_iload C dL_law_531 4 rfl ?_
            refine v_iconst (v := 3) C dL_law_533 (by decide) ?_
            refine v_iadd C dL_law_534 ?_
            refine v_sld C HX.1 HX.2.1 HX.2.2 dL_law_535 (fun x115 => ?_)
            refine v_gd fun HCS => ?_
            refine v_gd fun hO116 => ?_
            refine v_bind fun r117 hr117 => ?_
            refine v_callV0 (N := 3) (As := [.int x113, .int x114, .int x115]) (st := [.int r112]) C (fun f => f.elim) (mM_knows l h11 z14 r2.2 x113 x114 x115 r117 hr117) rfl w_818 w_53 (by decide +kernel) ⟨Nat.le_of_ble_eq_true rfl, Nat.le_of_ble_eq_true rfl⟩ rfl rfl (Nat.le_of_ble_eq_true rfl) HCS w_815 w_816 w_817 v_cl5 rfl hO116 dL_law_536 ?_
            refine v_icmp_eq (tgt := 907) C dL_law_539 (by decide) ?_ ?_
            · exact Hj22 r117.1 k12 n13 z14
            · refine v_iconst (v := 0) C dL_law_542 (by decide) ?_
              exact v_none
          refine v_swc 12 12 (tgt := 544) C dL_law_49 (by decide) (by decide) rfl (by decide) ?_ (fun hs12 => ?_)
          · refine v_aload_n C dL_law_544 rfl 1 rfl ?_
            refine v_aload_n C dL_law_545 rfl 0 rfl ?_
            refine v_iload C dL_law_546 4 rfl ?_
            refine v_iconst (v := 1) C dL_law_548 (by decide) ?_
            refine v_iadd C dL_law_549 ?_
            refine v_sld C HX.1 HX.2.1 HX.2.2 dL_law_550 (fun x118 => ?_)
            refine v_aload_n C dL_law_551 rfl 0 rfl ?_
            refine v_iload C dL_law_552 4 rfl ?_
            refine v_iconst (v := 2) C dL_law_554 (by decide) ?_
            refine v_iadd C dL_law_555 ?_
            refine v_sld C HX.1 HX.2.1 HX.2.2 dL_law_556 (fun x119 => ?_)
            refine v_gd fun HCS => ?_
            refine v_gd fun hO120 => ?_
            refine v_bind fun r121 hr121 => ?_
            refine v_callV0 (N := 2) (As := [.int x118, .int x119]) (st := []) C (fun _ => trivial) (mA_escape l h11 z14 z0 x118 x119 r121 hr121) rfl w_454 w_47 (by decide +kernel) ⟨Nat.le_of_ble_eq_true rfl, Nat.le_of_ble_eq_true rfl⟩ rfl rfl (Nat.le_of_ble_eq_true rfl) HCS w_451 w_452 w_453 v_cl4 rfl hO120 dL_law_557 ?_
            refine v_aload_n C dL_law_560 rfl 2 rfl ?_
            refine v_aload_n C dL_law_561 rfl 0 rfl ?_
            refine v_iload C dL_law_562 4 rfl ?_
            refine v_iconst (v := 1) C dL_law_564 (by decide) ?_
            refine v_iadd C dL_law_565 ?_
            refine v_sld C HX.1 HX.2.1 HX.2.2 dL_law_566 (fun x122 => ?_)
            refine v_aload_n C dL_law_567 rfl 0 rfl ?_
            refine v_iload C dL_law_568 4 rfl ?_
            refine v_iconst (v := 2) C dL_law_570 (by decide) ?_
            refine v_iadd C dL_law_571 ?_
            refine v_sld C HX.1 HX.2.1 HX.2.2 dL_law_572 (fun x123 => ?_)
            refine v_gd fun HCS => ?_
            refine v_gd fun hO124 => ?_
            refine v_bind fun r125 hr125 => ?_
            refine v_callV0 (N := 2) (As := [.int x122, .int x123]) (st := [.int r121]) C (fun f => f.elim) (mM_escape l h11 z14 r2.2 x122 x123 r125 hr125) rfl w_822 w_53 (by decide +kernel) ⟨Nat.le_of_ble_eq_true rfl, Nat.le_of_ble_eq_true rfl⟩ rfl rfl (Nat.le_of_ble_eq_true rfl) HCS w_819 w_820 w_821 v_cl5 rfl hO124 dL_law_573 ?_
            refine v_icmp_eq (tgt := 907) C dL_law_576 (by decide) ?_ ?_
            · exact Hj22 r125.1 k12 n13 z14
            · refine v_iconst (v := 0) C dL_law_579 (by decide) ?_
              exact v_none
          refine v_swc 13 13 (tgt := 581) C dL_law_49 (by decide) (by decide) rfl (by decide) ?_ (fun hs13 => ?_)
          · refine v_aload_n C dL_law_581 rfl 1 rfl ?_
            refine v_aload_n C dL_law_582 rfl 0 rfl ?_
            refine v_iload C dL_law_583 4 rfl ?_
            refine v_iconst (v := 1) C dL_law_585 (by decide) ?_
            refine v_iadd C dL_law_586 ?_
            refine v_sld C HX.1 HX.2.1 HX.2.2 dL_law_587 (fun x126 => ?_)
            refine v_aload_n C dL_law_588 rfl 0 rfl ?_
            refine v_iload C dL_law_589 4 rfl ?_
            refine v_iconst (v := 2) C dL_law_591 (by decide) ?_
            refine v_iadd C dL_law_592 ?_
            refine v_sld C HX.1 HX.2.1 HX.2.2 dL_law_593 (fun x127 => ?_)
            refine v_gd fun HCS => ?_
            refine v_gd fun hO128 => ?_
            refine v_bind fun r129 hr129 => ?_
            refine v_callV0 (N := 2) (As := [.int x126, .int x127]) (st := []) C (fun _ => trivial) (mA_halved l h11 z14 z0 x126 x127 r129 hr129) rfl w_462 w_47 (by decide +kernel) ⟨Nat.le_of_ble_eq_true rfl, Nat.le_of_ble_eq_true rfl⟩ rfl rfl (Nat.le_of_ble_eq_true rfl) HCS w_459 w_460 w_461 v_cl4 rfl hO128 dL_law_594 ?_
            refine v_aload_n C dL_law_597 rfl 2 rfl ?_
            refine v_aload_n C dL_law_598 rfl 0 rfl ?_
            refine v_iload C dL_law_599 4 rfl ?_
            refine v_iconst (v := 1) C dL_law_601 (by decide) ?_
            refine v_iadd C dL_law_602 ?_
            refine v_sld C HX.1 HX.2.1 HX.2.2 dL_law_603 (fun x130 => ?_)
            refine v_aload_n C dL_law_604 rfl 0 rfl ?_
            refine v_iload C dL_law_605 4 rfl ?_
            refine v_iconst (v := 2) C dL_law_607 (by decide) ?_
            refine v_iadd C dL_law_608 ?_
            refine v_sld C HX.1 HX.2.1 HX.2.2 dL_law_609 (fun x131 => ?_)
            refine v_gd fun HCS => ?_
            refine v_gd fun hO132 => ?_
            refine v_bind fun r133 hr133 => ?_
            refine v_callV0 (N := 2) (As := [.int x130, .int x131]) (st := [.int r129]) C (fun f => f.elim) (mM_halved l h11 z14 r2.2 x130 x131 r133 hr133) rfl w_826 w_53 (by decide +kernel) ⟨Nat.le_of_ble_eq_true rfl, Nat.le_of_ble_eq_true rfl⟩ rfl rfl (Nat.le_of_ble_eq_true rfl) HCS w_823 w_824 w_825 v_cl5 rfl hO132 dL_law_610 ?_
            refine v_icmp_eq (tgt := 907) C dL_law_613 (by decide) ?_ ?_
            · exact Hj22 r133.1 k12 n13 z14
            · refine v_iconst (v := 0) C dL_law_616 (by decide) ?_
              exact v_none
          refine v_swc 14 14 (tgt := 618) C dL_law_49 (by decide) (by decide) rfl (by decide) ?_ (fun hs14 => ?_)
          · refine v_aload_n C dL_law_618 rfl 1 rfl ?_
            refine v_aload_n C dL_law_619 rfl 0 rfl ?_
            refine v_iload C dL_law_620 4 rfl ?_
            refine v_iconst (v := 1) C dL_law_622 (by decide) ?_
            refine v_iadd C dL_law_623 ?_
            refine v_sld C HX.1 HX.2.1 HX.2.2 dL_law_624 (fun x134 => ?_)
            refine v_aload_n C dL_law_625 rfl 0 rfl ?_
            refine v_iload C dL_law_626 4 rfl ?_
            refine v_iconst (v := 2) C dL_law_628 (by decide) ?_
            refine v_iadd C dL_law_629 ?_
            refine v_sld C HX.1 HX.2.1 HX.2.2 dL_law_630 (fun x135 => ?_)
            refine v_gd fun HCS => ?_
            refine v_gd fun hO136 => ?_
            refine v_bind fun r137 hr137 => ?_
            refine v_callV0 (N := 2) (As := [.int x134, .int x135]) (st := []) C (fun _ => trivial) (mA_nodes l h11 z14 z0 x134 x135 r137 hr137) rfl w_466 w_47 (by decide +kernel) ⟨Nat.le_of_ble_eq_true rfl, Nat.le_of_ble_eq_true rfl⟩ rfl rfl (Nat.le_of_ble_eq_true rfl) HCS w_463 w_464 w_465 v_cl4 rfl hO136 dL_law_631 ?_
            refine v_aload_n C dL_law_634 rfl 2 rfl ?_
            refine v_aload_n C dL_law_635 rfl 0 rfl ?_
            refine v_iload C dL_law_636 4 rfl ?_
            refine v_iconst (v := 1) C dL_law_638 (by decide) ?_
            refine v_iadd C dL_law_639 ?_
            refine v_sld C HX.1 HX.2.1 HX.2.2 dL_law_640 (fun x138 => ?_)
            refine v_aload_n C dL_law_641 rfl 0 rfl ?_
            refine v_iload C dL_law_642 4 rfl ?_
            refine v_iconst (v := 2) C dL_law_644 (by decide) ?_
            refine v_iadd C dL_law_645 ?_
            refine v_sld C HX.1 HX.2.1 HX.2.2 dL_law_646 (fun x139 => ?_)
            refine v_gd fun HCS => ?_
            refine v_gd fun hO140 => ?_
            refine v_bind fun r141 hr141 => ?_
            refine v_callV0 (N := 2) (As := [.int x138, .int x139]) (st := [.int r137]) C (fun f => f.elim) (mM_nodes l h11 z14 r2.2 x138 x139 r141 hr141) rfl w_830 w_53 (by decide +kernel) ⟨Nat.le_of_ble_eq_true rfl, Nat.le_of_ble_eq_true rfl⟩ rfl rfl (Nat.le_of_ble_eq_true rfl) HCS w_827 w_828 w_829 v_cl5 rfl hO140 dL_law_647 ?_
            refine v_icmp_eq (tgt := 907) C dL_law_650 (by decide) ?_ ?_
            · exact Hj22 r141.1 k12 n13 z14
            · refine v_iconst (v := 0) C dL_law_653 (by decide) ?_
              exact v_none
          refine v_swc 15 15 (tgt := 655) C dL_law_49 (by decide) (by decide) rfl (by decide) ?_ (fun hs15 => ?_)
          · refine v_aload_n C dL_law_655 rfl 1 rfl ?_
            refine v_aload_n C dL_law_656 rfl 0 rfl ?_
            refine v_iload C dL_law_657 4 rfl ?_
            refine v_iconst (v := 1) C dL_law_659 (by decide) ?_
            refine v_iadd C dL_law_660 ?_
            refine v_sld C HX.1 HX.2.1 HX.2.2 dL_law_661 (fun x142 => ?_)
            refine v_aload_n C dL_law_662 rfl 0 rfl ?_
            refine v_iload C dL_law_663 4 rfl ?_
            refine v_iconst (v := 2) C dL_law_665 (by decide) ?_
            refine v_iadd C dL_law_666 ?_
            refine v_sld C HX.1 HX.2.1 HX.2.2 dL_law_667 (fun x143 => ?_)
            refine v_aload_n C dL_law_668 rfl 0 rfl ?_
            refine v_iload C dL_law_669 4 rfl ?_
            refine v_iconst (v := 3) C dL_law_671 (by decide) ?_
            refine v_iadd C dL_law_672 ?_
            refine v_sld C HX.1 HX.2.1 HX.2.2 dL_law_673 (fun x144 => ?_)
            refine v_aload_n C dL_law_674 rfl 0 rfl ?_
            refine v_iload C dL_law_675 4 rfl ?_
            refine v_iconst (v := 4) C dL_law_677 (by decide) ?_
            refine v_iadd C dL_law_678 ?_
            refine v_sld C HX.1 HX.2.1 HX.2.2 dL_law_679 (fun x145 => ?_)
            refine v_aload_n C dL_law_680 rfl 3 rfl ?_
            refine v_gd fun hF => ?_
            refine v_bind fun r146 hr146 => ?_
            refine v_lnode (st := []) (B := fun q : Nat => s.heap.size ≤ q) C hfl (fun _ h => h) hEx hr146 wl_520 ⟨Nat.le_of_ble_eq_true rfl, Nat.le_of_ble_eq_true rfl⟩ (Nat.le_of_ble_eq_true rfl) hF dL_law_681 ?_
            refine v_istore (lv' := [(0, .ref b), (1, .ref z0), (2, .ref r2.2), (3, .ref r4.2), (4, .int x15), (5, .int r146.2.2)]) C dL_law_684 (by decide) [1, 2, 3, 4, 5, 0] rfl ?_
            refine v_aload_n C dL_law_686 rfl 2 rfl ?_
            refine v_aload_n C dL_law_687 rfl 0 rfl ?_
            refine v_iload C dL_law_688 4 rfl ?_
            refine v_iconst (v := 1) C dL_law_690 (by decide) ?_
            refine v_iadd C dL_law_691 ?_
            refine v_sld C HX.1 HX.2.1 HX.2.2 dL_law_692 (fun x147 => ?_)
            refine v_aload_n C dL_law_693 rfl 0 rfl ?_
            refine v_iload C dL_law_694 4 rfl ?_
            refine v_iconst (v := 2) C dL_law_696 (by decide) ?_
            refine v_iadd C dL_law_697 ?_
            refine v_sld C HX.1 HX.2.1 HX.2.2 dL_law_698 (fun x148 => ?_)
            refine v_aload_n C dL_law_699 rfl 0 rfl ?_
            refine v_iload C dL_law_700 4 rfl ?_
            refine v_iconst (v := 3) C dL_law_702 (by decide) ?_
            refine v_iadd C dL_law_703 ?_
            refine v_sld C HX.1 HX.2.1 HX.2.2 dL_law_704 (fun x149 => ?_)
            refine v_aload_n C dL_law_705 rfl 0 rfl ?_
            refine v_iload C dL_law_706 4 rfl ?_
            refine v_iconst (v := 4) C dL_law_708 (by decide) ?_
            refine v_iadd C dL_law_709 ?_
            refine v_sld C HX.1 HX.2.1 HX.2.2 dL_law_710 (fun x150 => ?_)
            refine v_gd fun HCS => ?_
            refine v_gd fun hO151 => ?_
            refine v_bind fun r152 hr152 => ?_
            refine v_callV0 (N := 4) (As := [.int x147, .int x148, .int x149, .int x150]) (st := []) C (fun f => f.elim) (mM_node l r146.1 r146.2.1 r2.2 x147 x148 x149 x150 r152 hr152) rfl w_834 w_53 (by decide +kernel) ⟨Nat.le_of_ble_eq_true rfl, Nat.le_of_ble_eq_true rfl⟩ rfl rfl (Nat.le_of_ble_eq_true rfl) HCS w_831 w_832 w_833 v_cl5 rfl hO151 dL_law_711 ?_
            refine v_istore (lv' := [(0, .ref b), (1, .ref z0), (2, .ref r2.2), (3, .ref r4.2), (4, .int x15), (5, .int r146.2.2), (6, .int r152.2)]) C dL_law_714 (by decide) [1, 2, 3, 4, 5, 6, 0] rfl ?_
            refine v_aload_n C dL_law_716 rfl 2 rfl ?_
            refine v_gd fun HCS => ?_
            refine v_gd fun hO153 => ?_
            refine v_bind fun r154 hr154 => ?_
            refine v_callV0 (N := 0) (As := []) (st := []) C (fun _ => trivial) (mM_thrown l r152.1 r146.2.1 r2.2 r154 hr154) rfl w_691 w_53 (by decide +kernel) ⟨Nat.le_of_ble_eq_true rfl, Nat.le_of_ble_eq_true rfl⟩ rfl rfl (Nat.le_of_ble_eq_true rfl) HCS w_688 w_689 w_690 v_cl5 rfl hO153 dL_law_717 ?_
            refine v_iload C dL_law_720 5 rfl ?_
            refine v_icmp_eq (tgt := 727) C dL_law_722 (by decide) ?_ ?_
            · refine v_iload C dL_law_727 5 rfl ?_
              refine v_jn (fun (j : Option Unit) => vO p l e room_1 s m #[Value.ref b] below meth c D dA (fun q : Nat => s.heap.size ≤ q) 7 False Q (k12 + 1) (n13 + 6) r152.1 r146.2.1 [(0, .ref b), (1, .ref z0), (2, .ref r2.2), (3, .ref r4.2), (4, .int x15)] 744 [] j) ?_ (fun j155 Hj155 => ?_)
              · refine v_goto (tgt := 907) C dL_law_744 (by decide) ?_
                exact Hj22 r152.1 (k12 + 1) (n13 + 6) r146.2.1
              · refine v_if_ne (tgt := 744) C dL_law_729 (by decide) ?_ ?_
                · refine v_lv (lv' := [(0, .ref b), (1, .ref z0), (2, .ref r2.2), (3, .ref r4.2), (4, .int x15)]) [0, 1, 2, 3, 4] rfl ?_
                  exact Hj155
                · refine v_aload_n C dL_law_732 rfl 3 rfl ?_
                  refine v_iconst (v := 0) C dL_law_733 (by decide) ?_
                  refine v_lald C rfl dL_law_734 (fun x156 => ?_)
                  refine v_iload C dL_law_735 6 rfl ?_
                  refine v_i2l C dL_law_737 ?_
                  refine v_lcmp C dL_law_738 ?_
                  refine v_if_eq (tgt := 744) C dL_law_739 (by decide) ?_ ?_
                  · refine v_lv (lv' := [(0, .ref b), (1, .ref z0), (2, .ref r2.2), (3, .ref r4.2), (4, .int x15)]) [0, 1, 2, 3, 4] rfl ?_
                    exact Hj155
                  · refine v_iconst (v := 0) C dL_law_742 (by decide) ?_
                    exact v_none
            · refine v_iconst (v := 0) C dL_law_725 (by decide) ?_
              exact v_none
          refine v_swc 16 16 (tgt := 747) C dL_law_49 (by decide) (by decide) rfl (by decide) ?_ (fun hs16 => ?_)
          · refine v_aload_n C dL_law_747 rfl 1 rfl ?_
            refine v_aload_n C dL_law_748 rfl 0 rfl ?_
            refine v_iload C dL_law_749 4 rfl ?_
            refine v_iconst (v := 1) C dL_law_751 (by decide) ?_
            refine v_iadd C dL_law_752 ?_
            refine v_sld C HX.1 HX.2.1 HX.2.2 dL_law_753 (fun x157 => ?_)
            refine v_aload_n C dL_law_754 rfl 0 rfl ?_
            refine v_iload C dL_law_755 4 rfl ?_
            refine v_iconst (v := 2) C dL_law_757 (by decide) ?_
            refine v_iadd C dL_law_758 ?_
            refine v_sld C HX.1 HX.2.1 HX.2.2 dL_law_759 (fun x158 => ?_)
            refine v_gd fun HCS => ?_
            refine v_gd fun hO159 => ?_
            refine v_bind fun r160 hr160 => ?_
            refine v_callV0 (N := 2) (As := [.int x157, .int x158]) (st := []) C (fun _ => trivial) (mA_well l h11 z14 z0 x157 x158 r160 hr160) rfl w_470 w_47 (by decide +kernel) ⟨Nat.le_of_ble_eq_true rfl, Nat.le_of_ble_eq_true rfl⟩ rfl rfl (Nat.le_of_ble_eq_true rfl) HCS w_467 w_468 w_469 v_cl4 rfl hO159 dL_law_760 ?_
            refine v_aload_n C dL_law_763 rfl 2 rfl ?_
            refine v_aload_n C dL_law_764 rfl 0 rfl ?_
            refine v_iload C dL_law_765 4 rfl ?_
            refine v_iconst (v := 1) C dL_law_767 (by decide) ?_
            refine v_iadd C dL_law_768 ?_
            refine v_sld C HX.1 HX.2.1 HX.2.2 dL_law_769 (fun x161 => ?_)
            refine v_aload_n C dL_law_770 rfl 0 rfl ?_
            refine v_iload C dL_law_771 4 rfl ?_
            refine v_iconst (v := 2) C dL_law_773 (by decide) ?_
            refine v_iadd C dL_law_774 ?_
            refine v_sld C HX.1 HX.2.1 HX.2.2 dL_law_775 (fun x162 => ?_)
            refine v_gd fun HCS => ?_
            refine v_gd fun hO163 => ?_
            refine v_bind fun r164 hr164 => ?_
            refine v_callV0 (N := 2) (As := [.int x161, .int x162]) (st := [.int r160]) C (fun f => f.elim) (mM_well l h11 z14 r2.2 x161 x162 r164 hr164) rfl w_838 w_53 (by decide +kernel) ⟨Nat.le_of_ble_eq_true rfl, Nat.le_of_ble_eq_true rfl⟩ rfl rfl (Nat.le_of_ble_eq_true rfl) HCS w_835 w_836 w_837 v_cl5 rfl hO163 dL_law_776 ?_
            refine v_icmp_eq (tgt := 907) C dL_law_779 (by decide) ?_ ?_
            · exact Hj22 r164.1 k12 n13 z14
            · refine v_iconst (v := 0) C dL_law_782 (by decide) ?_
              exact v_none
          refine v_swc 17 17 (tgt := 784) C dL_law_49 (by decide) (by decide) rfl (by decide) ?_ (fun hs17 => ?_)
          · refine v_aload_n C dL_law_784 rfl 1 rfl ?_
            refine v_aload_n C dL_law_785 rfl 0 rfl ?_
            refine v_iload C dL_law_786 4 rfl ?_
            refine v_iconst (v := 1) C dL_law_788 (by decide) ?_
            refine v_iadd C dL_law_789 ?_
            refine v_sld C HX.1 HX.2.1 HX.2.2 dL_law_790 (fun x165 => ?_)
            refine v_gd fun HCS => ?_
            refine v_gd fun hO166 => ?_
            refine v_bind fun r167 hr167 => ?_
            refine v_callV0 (N := 1) (As := [.int x165]) (st := []) C (fun _ => trivial) (mA_same l h11 z14 z0 x165 r167 hr167) rfl w_494 w_47 (by decide +kernel) ⟨Nat.le_of_ble_eq_true rfl, Nat.le_of_ble_eq_true rfl⟩ rfl rfl (Nat.le_of_ble_eq_true rfl) HCS w_491 w_492 w_493 v_cl4 rfl hO166 dL_law_791 ?_
            refine v_aload_n C dL_law_794 rfl 2 rfl ?_
            refine v_aload_n C dL_law_795 rfl 0 rfl ?_
            refine v_iload C dL_law_796 4 rfl ?_
            refine v_iconst (v := 1) C dL_law_798 (by decide) ?_
            refine v_iadd C dL_law_799 ?_
            refine v_sld C HX.1 HX.2.1 HX.2.2 dL_law_800 (fun x168 => ?_)
            refine v_gd fun HCS => ?_
            refine v_gd fun hO169 => ?_
            refine v_bind fun r170 hr170 => ?_
            refine v_callV0 (N := 1) (As := [.int x168]) (st := [.int r167]) C (fun f => f.elim) (mM_same l h11 z14 r2.2 x168 r170 hr170) rfl w_850 w_53 (by decide +kernel) ⟨Nat.le_of_ble_eq_true rfl, Nat.le_of_ble_eq_true rfl⟩ rfl rfl (Nat.le_of_ble_eq_true rfl) HCS w_847 w_848 w_849 v_cl5 rfl hO169 dL_law_801 ?_
            refine v_icmp_eq (tgt := 907) C dL_law_804 (by decide) ?_ ?_
            · exact Hj22 r170.1 k12 n13 z14
            · refine v_iconst (v := 0) C dL_law_807 (by decide) ?_
              exact v_none
          refine v_swc 18 18 (tgt := 809) C dL_law_49 (by decide) (by decide) rfl (by decide) ?_ (fun hs18 => ?_)
          · refine v_aload_n C dL_law_809 rfl 1 rfl ?_
            refine v_aload_n C dL_law_810 rfl 0 rfl ?_
            refine v_iload C dL_law_811 4 rfl ?_
            refine v_iconst (v := 1) C dL_law_813 (by decide) ?_
            refine v_iadd C dL_law_814 ?_
            refine v_sld C HX.1 HX.2.1 HX.2.2 dL_law_815 (fun x171 => ?_)
            refine v_aload_n C dL_law_816 rfl 0 rfl ?_
            refine v_iload C dL_law_817 4 rfl ?_
            refine v_iconst (v := 2) C dL_law_819 (by decide) ?_
            refine v_iadd C dL_law_820 ?_
            refine v_sld C HX.1 HX.2.1 HX.2.2 dL_law_821 (fun x172 => ?_)
            refine v_aload_n C dL_law_822 rfl 0 rfl ?_
            refine v_iload C dL_law_823 4 rfl ?_
            refine v_iconst (v := 3) C dL_law_825 (by decide) ?_
            refine v_iadd C dL_law_826 ?_
            refine v_sld C HX.1 HX.2.1 HX.2.2 dL_law_827 (fun x173 => ?_)
            refine v_gd fun HCS => ?_
            refine v_gd fun hO174 => ?_
            refine v_bind fun r175 hr175 => ?_
            refine v_callV0 (N := 3) (As := [.int x171, .int x172, .int x173]) (st := []) C (fun f => f.elim) (mA_save l h11 z14 z0 x171 x172 x173 r175 hr175) rfl w_502 w_47 (by decide +kernel) ⟨Nat.le_of_ble_eq_true rfl, Nat.le_of_ble_eq_true rfl⟩ rfl rfl (Nat.le_of_ble_eq_true rfl) HCS w_499 w_500 w_501 v_cl4 rfl hO174 dL_law_828 ?_
            refine v_aload_n C dL_law_831 rfl 2 rfl ?_
            refine v_aload_n C dL_law_832 rfl 0 rfl ?_
            refine v_iload C dL_law_833 4 rfl ?_
            refine v_iconst (v := 1) C dL_law_835 (by decide) ?_
            refine v_iadd C dL_law_836 ?_
            refine v_sld C HX.1 HX.2.1 HX.2.2 dL_law_837 (fun x176 => ?_)
            refine v_aload_n C dL_law_838 rfl 0 rfl ?_
            refine v_iload C dL_law_839 4 rfl ?_
            refine v_iconst (v := 2) C dL_law_841 (by decide) ?_
            refine v_iadd C dL_law_842 ?_
            refine v_sld C HX.1 HX.2.1 HX.2.2 dL_law_843 (fun x177 => ?_)
            refine v_aload_n C dL_law_844 rfl 0 rfl ?_
            refine v_iload C dL_law_845 4 rfl ?_
            refine v_iconst (v := 3) C dL_law_847 (by decide) ?_
            refine v_iadd C dL_law_848 ?_
            refine v_sld C HX.1 HX.2.1 HX.2.2 dL_law_849 (fun x178 => ?_)
            refine v_gd fun HCS => ?_
            refine v_gd fun hO179 => ?_
            refine v_bind fun r180 hr180 => ?_
            refine v_callV0 (N := 3) (As := [.int x176, .int x177, .int x178]) (st := [.int r175.2]) C (fun f => f.elim) (mM_save l r175.1 z14 r2.2 x176 x177 x178 r180 hr180) rfl w_854 w_53 (by decide +kernel) ⟨Nat.le_of_ble_eq_true rfl, Nat.le_of_ble_eq_true rfl⟩ rfl rfl (Nat.le_of_ble_eq_true rfl) HCS w_851 w_852 w_853 v_cl5 rfl hO179 dL_law_850 ?_
            refine v_icmp_eq (tgt := 907) C dL_law_853 (by decide) ?_ ?_
            · exact Hj22 r180.1 k12 n13 z14
            · refine v_iconst (v := 0) C dL_law_856 (by decide) ?_
              exact v_none
          refine v_swc 19 19 (tgt := 858) C dL_law_49 (by decide) (by decide) rfl (by decide) ?_ (fun hs19 => ?_)
          · refine v_aload_n C dL_law_858 rfl 1 rfl ?_
            refine v_aload_n C dL_law_859 rfl 0 rfl ?_
            refine v_iload C dL_law_860 4 rfl ?_
            refine v_iconst (v := 1) C dL_law_862 (by decide) ?_
            refine v_iadd C dL_law_863 ?_
            refine v_sld C HX.1 HX.2.1 HX.2.2 dL_law_864 (fun x181 => ?_)
            refine v_aload_n C dL_law_865 rfl 0 rfl ?_
            refine v_iload C dL_law_866 4 rfl ?_
            refine v_iconst (v := 2) C dL_law_868 (by decide) ?_
            refine v_iadd C dL_law_869 ?_
            refine v_sld C HX.1 HX.2.1 HX.2.2 dL_law_870 (fun x182 => ?_)
            refine v_aload_n C dL_law_871 rfl 0 rfl ?_
            refine v_iload C dL_law_872 4 rfl ?_
            refine v_iconst (v := 3) C dL_law_874 (by decide) ?_
            refine v_iadd C dL_law_875 ?_
            refine v_sld C HX.1 HX.2.1 HX.2.2 dL_law_876 (fun x183 => ?_)
            refine v_gd fun HCS => ?_
            refine v_gd fun hO184 => ?_
            refine v_bind fun r185 hr185 => ?_
            refine v_callV0 (N := 3) (As := [.int x181, .int x182, .int x183]) (st := []) C (fun f => f.elim) (mA_restore l h11 z14 z0 x181 x182 x183 r185 hr185) rfl w_516 w_47 (by decide +kernel) ⟨Nat.le_of_ble_eq_true rfl, Nat.le_of_ble_eq_true rfl⟩ rfl rfl (Nat.le_of_ble_eq_true rfl) HCS w_513 w_514 w_515 v_cl4 rfl hO184 dL_law_877 ?_
            refine v_aload_n C dL_law_880 rfl 2 rfl ?_
            refine v_aload_n C dL_law_881 rfl 0 rfl ?_
            refine v_iload C dL_law_882 4 rfl ?_
            refine v_iconst (v := 1) C dL_law_884 (by decide) ?_
            refine v_iadd C dL_law_885 ?_
            refine v_sld C HX.1 HX.2.1 HX.2.2 dL_law_886 (fun x186 => ?_)
            refine v_aload_n C dL_law_887 rfl 0 rfl ?_
            refine v_iload C dL_law_888 4 rfl ?_
            refine v_iconst (v := 2) C dL_law_890 (by decide) ?_
            refine v_iadd C dL_law_891 ?_
            refine v_sld C HX.1 HX.2.1 HX.2.2 dL_law_892 (fun x187 => ?_)
            refine v_aload_n C dL_law_893 rfl 0 rfl ?_
            refine v_iload C dL_law_894 4 rfl ?_
            refine v_iconst (v := 3) C dL_law_896 (by decide) ?_
            refine v_iadd C dL_law_897 ?_
            refine v_sld C HX.1 HX.2.1 HX.2.2 dL_law_898 (fun x188 => ?_)
            refine v_gd fun HCS => ?_
            refine v_gd fun hO189 => ?_
            refine v_bind fun r190 hr190 => ?_
            refine v_callV0 (N := 3) (As := [.int x186, .int x187, .int x188]) (st := [.int r185.2]) C (fun f => f.elim) (mM_restore l r185.1 z14 r2.2 x186 x187 x188 r190 hr190) rfl w_862 w_53 (by decide +kernel) ⟨Nat.le_of_ble_eq_true rfl, Nat.le_of_ble_eq_true rfl⟩ rfl rfl (Nat.le_of_ble_eq_true rfl) HCS w_859 w_860 w_861 v_cl5 rfl hO189 dL_law_899 ?_
            refine v_icmp_eq (tgt := 907) C dL_law_902 (by decide) ?_ ?_
            · exact Hj22 r190.1 k12 n13 z14
            · refine v_iconst (v := 0) C dL_law_905 (by decide) ?_
              exact v_none
          refine v_swd (tgt := 907) C dL_law_49 (by omega) (by decide) ?_
          exact Hj22 h11 k12 n13 z14
