theorem wl_103 : (Jvm.Cond.instantiable "AdaptiveTrees$Code" (2 : Nat)) ∈ gW := List.mem_filter.mpr ⟨List.mem_append_right _ (List.mem_append_left _ (List.mem_of_getElem? (i := 57) rfl)), rfl⟩
theorem wl_120 : (Jvm.Cond.instantiable "AdaptiveTrees$Pieces" (4 : Nat)) ∈ gW := List.mem_filter.mpr ⟨List.mem_append_right _ (List.mem_append_left _ (List.mem_of_getElem? (i := 74) rfl)), rfl⟩
theorem wl_70 : (Jvm.Cond.instantiable "AdaptiveTrees$Reading" (4 : Nat)) ∈ gW := List.mem_filter.mpr ⟨List.mem_append_right _ (List.mem_append_left _ (List.mem_of_getElem? (i := 24) rfl)), rfl⟩
theorem wl_142 : (Jvm.Cond.instantiable "AdaptiveTrees$Tree" (12 : Nat)) ∈ gW := List.mem_filter.mpr ⟨List.mem_append_right _ (List.mem_append_left _ (List.mem_of_getElem? (i := 96) rfl)), rfl⟩
theorem wl_60 : (Jvm.Cond.instantiable "AdaptiveTrees" (12 : Nat)) ∈ gW := List.mem_filter.mpr ⟨List.mem_append_right _ (List.mem_append_left _ (List.mem_of_getElem? (i := 14) rfl)), rfl⟩
theorem wl_600 : (Jvm.Cond.instantiable "AdaptiveTreesModel" (26 : Nat)) ∈ gW := List.mem_filter.mpr ⟨List.mem_append_right _ (List.mem_append_right _ (List.mem_append_right _ (List.mem_append_left _ (List.mem_of_getElem? (i := 74) rfl)))), rfl⟩
theorem wl_92 : (Jvm.Cond.arrayClass Jvm.ClassFile.FieldType.int) ∈ gW := List.mem_filter.mpr ⟨List.mem_append_right _ (List.mem_append_left _ (List.mem_of_getElem? (i := 46) rfl)), rfl⟩
theorem wl_91 : (Jvm.Cond.arrayClass Jvm.ClassFile.FieldType.boolean) ∈ gW := List.mem_filter.mpr ⟨List.mem_append_right _ (List.mem_append_left _ (List.mem_of_getElem? (i := 45) rfl)), rfl⟩
theorem wl_863 : (Jvm.Cond.arrayClass Jvm.ClassFile.FieldType.long) ∈ gW := List.mem_filter.mpr ⟨List.mem_append_right _ (List.mem_append_right _ (List.mem_append_right _ (List.mem_append_right _ (List.mem_of_getElem? (i := 97) rfl)))), rfl⟩
theorem wl_68 : (Jvm.Cond.arrayOver (Jvm.ClassFile.FieldType.object "AdaptiveTrees$Tree")) ∈ lw_tbl := List.mem_append_right _ (List.mem_append_left _ (List.mem_of_getElem? (i := 22) rfl))
theorem wl_169 : (Jvm.Cond.fieldLinkNest "AdaptiveTrees" (87 : Nat) "AdaptiveTrees$Tree" "form" "I" "AdaptiveTrees") ∈ lw_tbl := List.mem_append_right _ (List.mem_append_left _ (List.mem_of_getElem? (i := 123) rfl))
theorem wl_113 : (Jvm.Cond.fieldLinkNest "AdaptiveTrees" (104 : Nat) "AdaptiveTrees$Code" "length" "I" "AdaptiveTrees") ∈ lw_tbl := List.mem_append_right _ (List.mem_append_left _ (List.mem_of_getElem? (i := 67) rfl))
theorem wl_173 : (Jvm.Cond.fieldLinkNest "AdaptiveTrees" (137 : Nat) "AdaptiveTrees$Tree" "escapePlace" "I" "AdaptiveTrees") ∈ lw_tbl := List.mem_append_right _ (List.mem_append_left _ (List.mem_of_getElem? (i := 127) rfl))
theorem wl_175 : (Jvm.Cond.fieldLinkNest "AdaptiveTrees" (143 : Nat) "AdaptiveTrees$Tree" "halvings" "I" "AdaptiveTrees") ∈ lw_tbl := List.mem_append_right _ (List.mem_append_left _ (List.mem_of_getElem? (i := 129) rfl))
theorem wl_171 : (Jvm.Cond.fieldLinkNest "AdaptiveTrees" (146 : Nat) "AdaptiveTrees$Tree" "size" "I" "AdaptiveTrees") ∈ lw_tbl := List.mem_append_right _ (List.mem_append_left _ (List.mem_of_getElem? (i := 125) rfl))
theorem wl_77 : (Jvm.Cond.fieldLinkNest "AdaptiveTrees" (203 : Nat) "AdaptiveTrees$Reading" "node" "I" "AdaptiveTrees") ∈ lw_tbl := List.mem_append_right _ (List.mem_append_left _ (List.mem_of_getElem? (i := 31) rfl))
theorem wl_79 : (Jvm.Cond.fieldLinkNest "AdaptiveTrees" (213 : Nat) "AdaptiveTrees$Reading" "number" "I" "AdaptiveTrees") ∈ lw_tbl := List.mem_append_right _ (List.mem_append_left _ (List.mem_of_getElem? (i := 33) rfl))
theorem wl_81 : (Jvm.Cond.fieldLinkNest "AdaptiveTrees" (216 : Nat) "AdaptiveTrees$Reading" "numberBits" "I" "AdaptiveTrees") ∈ lw_tbl := List.mem_append_right _ (List.mem_append_left _ (List.mem_of_getElem? (i := 35) rfl))
theorem wl_132 : (Jvm.Cond.fieldLinkNest "AdaptiveTrees$Tree" (115 : Nat) "AdaptiveTrees$Pieces" "size" "I" "AdaptiveTrees") ∈ lw_tbl := List.mem_append_right _ (List.mem_append_left _ (List.mem_of_getElem? (i := 86) rfl))
theorem wl_130 : (Jvm.Cond.fieldLinkNest "AdaptiveTrees$Tree" (132 : Nat) "AdaptiveTrees$Pieces" "first" "[I" "AdaptiveTrees") ∈ lw_tbl := List.mem_append_right _ (List.mem_append_left _ (List.mem_of_getElem? (i := 84) rfl))
theorem wl_126 : (Jvm.Cond.fieldLinkNest "AdaptiveTrees$Tree" (133 : Nat) "AdaptiveTrees$Pieces" "count" "[I" "AdaptiveTrees") ∈ lw_tbl := List.mem_append_right _ (List.mem_append_left _ (List.mem_of_getElem? (i := 80) rfl))
theorem wl_128 : (Jvm.Cond.fieldLinkNest "AdaptiveTrees$Tree" (134 : Nat) "AdaptiveTrees$Pieces" "sign" "[I" "AdaptiveTrees") ∈ lw_tbl := List.mem_append_right _ (List.mem_append_left _ (List.mem_of_getElem? (i := 82) rfl))
theorem wl_71 : (Jvm.Cond.methodLinkNest "AdaptiveTrees" (41 : Nat) yR_init "AdaptiveTrees") ∈ lw_tbl := List.mem_append_right _ (List.mem_append_left _ (List.mem_of_getElem? (i := 25) rfl))
theorem wl_147 : (Jvm.Cond.methodLinkNest "AdaptiveTrees$Tree" (31 : Nat) yA_mostNodes "AdaptiveTrees") ∈ lw_tbl := List.mem_append_right _ (List.mem_append_left _ (List.mem_of_getElem? (i := 101) rfl))
theorem wl_555 : (Jvm.Cond.laysStatic "java/lang/Throwable" "UNASSIGNED_STACK" "[Ljava/lang/StackTraceElement;") ∈ lw_tbl := List.mem_append_right _ (List.mem_append_right _ (List.mem_append_right _ (List.mem_append_left _ (List.mem_of_getElem? (i := 29) rfl))))
theorem wl_557 : (Jvm.Cond.laysStatic "java/lang/Throwable" "SUPPRESSED_SENTINEL" "Ljava/util/List;") ∈ lw_tbl := List.mem_append_right _ (List.mem_append_right _ (List.mem_append_right _ (List.mem_append_left _ (List.mem_of_getElem? (i := 31) rfl))))
theorem wl_567 : (Jvm.Cond.stringRef "AdaptiveTrees" (151 : Nat) "no such end or tree") ∈ lw_tbl := List.mem_append_right _ (List.mem_append_right _ (List.mem_append_right _ (List.mem_append_left _ (List.mem_of_getElem? (i := 41) rfl))))
theorem wl_595 : (Jvm.Cond.stringRef "AdaptiveTrees" (159 : Nat) "no such node") ∈ lw_tbl := List.mem_append_right _ (List.mem_append_right _ (List.mem_append_right _ (List.mem_append_left _ (List.mem_of_getElem? (i := 69) rfl))))
theorem wl_598 : (Jvm.Cond.stringRef "AdaptiveTrees" (173 : Nat) "a node has no such number") ∈ lw_tbl := List.mem_append_right _ (List.mem_append_right _ (List.mem_append_right _ (List.mem_append_left _ (List.mem_of_getElem? (i := 72) rfl))))
set_option maxRecDepth 100000 in
theorem exG_tbl : ∀ w ∈ exG, w ∈ lw_tbl := by decide +kernel
set_option maxRecDepth 100000 in
set_option maxHeartbeats 8000000 in
/-- THE LAW, where its functional text answers -/
theorem whole_of {p : Program} {e : Env} {s : State} {m : MethodId} {below : List Frame} {meth : Method} {c : Code} (l : Launch) (hfl : l.flags = flags0) {b L : Nat} {xs : Nat → Int32} (C0 : lw_At p s m meth c b L xs) (hF : FL_law (fun _ => none) s.heap.size L xs = some ()) : W p l e room_1 s m #[Value.ref b] below meth c s.heap [] 0 0 (lw_Z below #[Value.ref b] s) (entryFrame m ([Value.ref b] : List Value).toArray 7) := by
  obtain ⟨hx, hb, hr, hml, hown, hts, hX, hbl, hlocks, hgv⟩ := C0
  have htg : ∀ w ∈ gW, w.before #[Value.ref b] s = true := fun w hw => hts w (List.mem_filter.mp hw).1
  obtain ⟨c0, i0, k0⟩ := u_known (C := "AdaptiveTrees$Code") (T := T_0) (N := 2) (n := 2) htg in_0 (htg _ wl_103)
  obtain ⟨c1, i1, k1⟩ := u_known (C := "AdaptiveTrees$Pieces") (T := T_1) (N := 4) (n := 4) htg in_1 (htg _ wl_120)
  obtain ⟨c2, i2, k2⟩ := u_known (C := "AdaptiveTrees$Reading") (T := T_2) (N := 4) (n := 4) htg in_2 (htg _ wl_70)
  obtain ⟨c3, i3, k3⟩ := u_known (C := "AdaptiveTrees$Tree") (T := T_3) (N := 12) (n := 12) htg in_3 (htg _ wl_142)
  obtain ⟨c4, i4, k4⟩ := u_known (C := "AdaptiveTrees") (T := T_4) (N := 12) (n := 12) htg in_4 (htg _ wl_60)
  obtain ⟨c5, i5, k5⟩ := u_known (C := "AdaptiveTreesModel") (T := T_5) (N := 26) (n := 26) htg in_5 (htg _ wl_600)
  obtain ⟨e0, ka0, cp0, f0, g0, j0⟩ := Cond.arrayClass_spec (htg _ wl_92)
  obtain ⟨e1, ka1, cp1, f1, g1, j1⟩ := Cond.arrayClass_spec (htg _ wl_91)
  obtain ⟨e2, ka2, cp2, f2, g2, j2⟩ := Cond.arrayClass_spec (htg _ wl_863)
  have hao : va_AO "AdaptiveTrees$Tree" s := va_AO.of (hts _ wl_68)
  obtain ⟨cp3, e3, ka3, n3, -, g3, j3, f3⟩ := Cond.arrayOver_spec (hts _ wl_68)
  obtain ⟨D, dA, hK⟩ : ∃ (D : va_G) (dA : Nat → ClassId), va_K D vwCl (vTy dA) s := by
    refine ⟨(fun k => if k = 0 then c0 else if k = 1 then c1 else if k = 2 then c2 else if k = 3 then c3 else if k = 4 then c4 else c5, fun k => if k = 0 then i0 else if k = 1 then i1 else if k = 2 then i2 else if k = 3 then i3 else if k = 4 then i4 else i5), fun k => if k = 0 then e0 else if k = 1 then e1 else if k = 2 then e2 else e3, ?_, ?_⟩
    · intro k q hq
      match k, hq with
      | 0, hq => cases hq; exact k0
      | 1, hq => cases hq; exact k1
      | 2, hq => cases hq; exact k2
      | 3, hq => cases hq; exact k3
      | 4, hq => cases hq; exact k4
      | 5, hq => cases hq; exact k5
      | k + 6, hq => simp [vwCl] at hq
    · intro k q hq
      match k, hq with
      | 0, hq => cases hq; exact ⟨fun n z => ⟨fun k h => (by cases h), ka0, g0, cp0, j0⟩, f0⟩
      | 1, hq => cases hq; exact ⟨fun n z => ⟨fun k h => (by cases h), ka1, g1, cp1, j1⟩, f1⟩
      | 2, hq => cases hq; exact ⟨fun n z => ⟨fun k h => (by cases h), ka2, g2, cp2, j2⟩, f2⟩
      | 3, hq => cases hq; exact ⟨fun n z => ⟨fun k h => (by cases h), ka3, g3, cp3, j3⟩, ka3, cp3, g3, j3, n3, f3⟩
      | k + 4, hq => simp [vTy] at hq
  have hN : vNx s := ⟨List.forall_mem_cons.mpr ⟨va_Nw.of rfl (hts _ wl_169), List.forall_mem_cons.mpr ⟨va_Nw.of rfl (hts _ wl_113), List.forall_mem_cons.mpr ⟨va_Nw.of rfl (hts _ wl_173), List.forall_mem_cons.mpr ⟨va_Nw.of rfl (hts _ wl_175), List.forall_mem_cons.mpr ⟨va_Nw.of rfl (hts _ wl_171), List.forall_mem_cons.mpr ⟨va_Nw.of rfl (hts _ wl_77), List.forall_mem_cons.mpr ⟨va_Nw.of rfl (hts _ wl_79), List.forall_mem_cons.mpr ⟨va_Nw.of rfl (hts _ wl_81), List.forall_mem_cons.mpr ⟨va_Nw.of rfl (hts _ wl_132), List.forall_mem_cons.mpr ⟨va_Nw.of rfl (hts _ wl_130), List.forall_mem_cons.mpr ⟨va_Nw.of rfl (hts _ wl_126), List.forall_mem_cons.mpr ⟨va_Nw.of rfl (hts _ wl_128), fun _ h => absurd h List.not_mem_nil⟩⟩⟩⟩⟩⟩⟩⟩⟩⟩⟩⟩, List.forall_mem_cons.mpr ⟨va_Nw.of rfl (hts _ wl_71), List.forall_mem_cons.mpr ⟨va_Nw.of rfl (hts _ wl_147), fun _ h => absurd h List.not_mem_nil⟩⟩, hao⟩
  have hs := flat_of_before _ hgv
  have hBn : ∀ a : Nat, a < s.heap.size → ¬ (fun q : Nat => s.heap.size ≤ q) a := fun a h => Nat.not_le.mpr h
  have hstr : ∀ (ix : Nat) (tx : String), (Cond.stringRef "AdaptiveTrees" ix tx).before #[Value.ref b] s = true → ∃ q, vk_R "AdaptiveTrees" ix tx q s := fun ix tx h9 => by
    obtain ⟨k9, cf9, i9, a9, -, -, -, -, -, hev⟩ := Cond.stringRef_spec k4.2.1 h9
    exact ⟨a9, vk_R.of h9 hev⟩
  have hEx : vEx (fun q : Nat => s.heap.size ≤ q) s s.heap := ⟨fun w hw => va_Nw.of (exG_spec hw).1 (hts w (exG_tbl w hw)), exS.of (hts _ wl_555) (hs _ (by decide +kernel)) hBn, exS.of (hts _ wl_557) (hs _ (by decide +kernel)) hBn, hstr _ _ (hts _ wl_567), hstr _ _ (hts _ wl_595), hstr _ _ (hts _ wl_598)⟩
  have C : vC p s m #[Value.ref b] meth c D dA (fun q : Nat => s.heap.size ≤ q) code 7 "AdaptiveTreesLaw" ret := ⟨hx, hb, hml, hown, htg, hK, fun _ h => h, hlocks, hr, hN⟩
  have hw := law_walk (fun _ => none) s.heap.size (fun _ => lw_Z below #[Value.ref b] s) rfl C ⟨hX, hbl, hBn b hbl⟩ hfl hEx (p := p) (l := l) (e := e) () hF s.heap [] _ (fun a x h9 => by cases h9) rfl va_S.rf (fun f => f.elim) (lv_entry ([.ref b]) (n := 7) (Nat.le_of_ble_eq_true rfl))
  rw [lg_entry_eq]
  exact hw
