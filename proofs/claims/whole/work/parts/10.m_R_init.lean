theorem dR_init_0 : decode prog_4_method_1_code 0 = .ok (.aload_n 0, 1) := by decide +kernel
theorem dR_init_1 : decode prog_4_method_1_code 1 = .ok (.invokespecial 3, 3) := by decide +kernel
theorem dR_init_4 : decode prog_4_method_1_code 4 = .ok (.aload_n 0, 1) := by decide +kernel
theorem dR_init_5 : decode prog_4_method_1_code 5 = .ok (.iconst (-1), 1) := by decide +kernel
theorem dR_init_6 : decode prog_4_method_1_code 6 = .ok (.putfield 9, 3) := by decide +kernel
theorem dR_init_9 : decode prog_4_method_1_code 9 = .ok (.aload_n 0, 1) := by decide +kernel
theorem dR_init_10 : decode prog_4_method_1_code 10 = .ok (.iconst 0, 1) := by decide +kernel
theorem dR_init_11 : decode prog_4_method_1_code 11 = .ok (.putfield 15, 3) := by decide +kernel
theorem dR_init_14 : decode prog_4_method_1_code 14 = .ok (.aload_n 0, 1) := by decide +kernel
theorem dR_init_15 : decode prog_4_method_1_code 15 = .ok (.iconst 0, 1) := by decide +kernel
theorem dR_init_16 : decode prog_4_method_1_code 16 = .ok (.putfield 18, 3) := by decide +kernel
theorem dR_init_19 : decode prog_4_method_1_code 19 = .ok (.aload_n 0, 1) := by decide +kernel
theorem dR_init_20 : decode prog_4_method_1_code 20 = .ok (.iconst 0, 1) := by decide +kernel
theorem dR_init_21 : decode prog_4_method_1_code 21 = .ok (.putfield 21, 3) := by decide +kernel
theorem dR_init_24 : decode prog_4_method_1_code 24 = .ok (.return_, 1) := by decide +kernel
def FR_init (h0 : Hp) (a0 : Nat) : Option Hp :=
  
  pF h0 a0 2 0 (.int (-1)) (fun h1 =>
  pF h1 a0 2 1 (.int 0) (fun h2 =>
  pF h2 a0 2 2 (.int 0) (fun h3 =>
  pF h3 a0 2 3 (.int 0) (fun h4 =>
  some h4))))
set_option maxRecDepth 100000 in
set_option maxHeartbeats 4000000 in
theorem mR_init (l : Launch) (h0 : Hp) (z0 : Nat) (a0 : Nat) (r : Hp) (hr : FR_init h0 a0 = some r) : vM False l yR_init (Cond.code yR_init prog_4_method_1_code 1 none :: gW) 1 [.ref a0] h0 z0 r z0 none 0 0 := by
  refine vM.of (by decide) rfl (Nat.le_of_ble_eq_true rfl) ?_
  intro p e s m args below meth c D dA C hin2
  refine (?_ : vO p l e (vR 1 0 0) s m args below meth c D dA (vA h0 z0) 1 False (fun r : Hp => MQ below (vQc False h0 z0 D dA r z0 none) args s 0 0 (vAr False h0 z0)) 0 0 h0 z0 [(0, .ref a0)] 0 [] (FR_init h0 a0)) r hr
  obtain ⟨Q, hQ⟩ : ∃ Q : Hp → State → Prop, Q = (fun r : Hp => MQ below (vQc False h0 z0 D dA r z0 none) args s 0 0 (vAr False h0 z0)) := ⟨_, rfl⟩
  rw [← hQ]
  unfold FR_init
  refine v_aload_n C dR_init_0 rfl 0 rfl ?_
  refine v_objInit C w_74 w_65 w_66 dR_init_1 (Nat.le_of_ble_eq_true rfl) (Nat.le_of_ble_eq_true rfl) ?_
  refine v_aload_n C dR_init_4 rfl 0 rfl ?_
  refine v_iconst (v := (-1)) C dR_init_5 (by decide) ?_
  refine v_put C v_cl2 (by decide) in_2 ty_2 ty_2_ok nm_2 rfl w_75 rfl (ty := .int) (by decide +kernel) rfl rfl dR_init_6 (fun h1 => ?_)
  refine v_aload_n C dR_init_9 rfl 0 rfl ?_
  refine v_iconst (v := 0) C dR_init_10 (by decide) ?_
  refine v_put C v_cl2 (by decide) in_2 ty_2 ty_2_ok nm_2 rfl w_76 rfl (ty := .int) (by decide +kernel) rfl rfl dR_init_11 (fun h2 => ?_)
  refine v_aload_n C dR_init_14 rfl 0 rfl ?_
  refine v_iconst (v := 0) C dR_init_15 (by decide) ?_
  refine v_put C v_cl2 (by decide) in_2 ty_2 ty_2_ok nm_2 rfl w_78 rfl (ty := .int) (by decide +kernel) rfl rfl dR_init_16 (fun h3 => ?_)
  refine v_aload_n C dR_init_19 rfl 0 rfl ?_
  refine v_iconst (v := 0) C dR_init_20 (by decide) ?_
  refine v_put C v_cl2 (by decide) in_2 ty_2 ty_2_ok nm_2 rfl w_80 rfl (ty := .int) (by decide +kernel) rfl rfl dR_init_21 (fun h4 => ?_)
  exact v_vret C dR_init_24 (by rw [hQ])
theorem dA_widthFor_0 : decode prog_1_method_22_code 0 = .ok (.iconst 1, 1) := by decide +kernel
theorem dA_widthFor_1 : decode prog_1_method_22_code 1 = .ok (.istore_n 1, 1) := by decide +kernel
theorem dA_widthFor_2 : decode prog_1_method_22_code 2 = .ok (.iload_n 1, 1) := by decide +kernel
theorem dA_widthFor_3 : decode prog_1_method_22_code 3 = .ok (.bipush 6, 2) := by decide +kernel
theorem dA_widthFor_5 : decode prog_1_method_22_code 5 = .ok (.if_icmp .ge 16, 3) := by decide +kernel
theorem dA_widthFor_8 : decode prog_1_method_22_code 8 = .ok (.iconst 1, 1) := by decide +kernel
theorem dA_widthFor_9 : decode prog_1_method_22_code 9 = .ok (.iload_n 1, 1) := by decide +kernel
theorem dA_widthFor_10 : decode prog_1_method_22_code 10 = .ok (.ishl, 1) := by decide +kernel
theorem dA_widthFor_11 : decode prog_1_method_22_code 11 = .ok (.iload_n 0, 1) := by decide +kernel
theorem dA_widthFor_12 : decode prog_1_method_22_code 12 = .ok (.if_icmp .ge 9, 3) := by decide +kernel
theorem dA_widthFor_15 : decode prog_1_method_22_code 15 = .ok (.iinc 1 1, 3) := by decide +kernel
theorem dA_widthFor_18 : decode prog_1_method_22_code 18 = .ok (.goto (-16), 3) := by decide +kernel
theorem dA_widthFor_21 : decode prog_1_method_22_code 21 = .ok (.iload_n 1, 1) := by decide +kernel
theorem dA_widthFor_22 : decode prog_1_method_22_code 22 = .ok (.ireturn, 1) := by decide +kernel
def LA_widthFor_2 (p0 : Int32) (K2 : Int32 → Option Int32) (rec4 : Int32 → Option Int32) (x3 : Int32) : Option Int32 :=
  if 6 ≤ x3 then
    (K2 x3)
  else
    (if p0 ≤ (1 <<< (x3 &&& 31)) then
      (K2 x3)
    else
      (rec4 (x3 + 1)))
def FA_widthFor (h0 : Hp) (p0 : Int32) : Option Int32 :=
  jn (fun (x1 : Int32) =>
  some x1)
  (fun (K2 : Int32 → Option Int32) =>
  lpG (fun _ => none) fu (LA_widthFor_2 p0 K2) 1)
set_option maxRecDepth 100000 in
set_option maxHeartbeats 4000000 in
theorem mA_widthFor (l : Launch) (h0 : Hp) (z0 : Nat) (p0 : Int32) (r : Int32) (hr : FA_widthFor h0 p0 = some r) : vM True l yA_widthFor (Cond.code yA_widthFor prog_1_method_22_code 2 (some (.int)) :: gW) 0 [.int p0] h0 z0 h0 z0 (some (.int r)) 0 0 := by
  refine vM.of (by decide) rfl (Nat.le_of_ble_eq_true rfl) ?_
  intro p e s m args below meth c D dA C hin2
  refine (?_ : vO p l e (vR 0 0 0) s m args below meth c D dA (vA h0 z0) 2 True (fun r : Int32 => MQ below (vQc True h0 z0 D dA h0 z0 (some (.int r))) args s 0 0 (vAr True h0 z0)) 0 0 h0 z0 [(0, .int p0)] 0 [] (FA_widthFor h0 p0)) r hr
  obtain ⟨Q, hQ⟩ : ∃ Q : Int32 → State → Prop, Q = (fun r : Int32 => MQ below (vQc True h0 z0 D dA h0 z0 (some (.int r))) args s 0 0 (vAr True h0 z0)) := ⟨_, rfl⟩
  rw [← hQ]
  unfold FA_widthFor
  refine v_iconst (v := 1) C dA_widthFor_0 (by decide) ?_
  refine v_istore_n (lv' := [(0, .int p0), (1, .int 1)]) C dA_widthFor_1 rfl (by decide) [1, 0] rfl ?_
  refine v_jn (fun (j : Int32 → Option Int32) => ∀ (x1 : Int32), vO p l e (vR 0 0 0) s m args below meth c D dA (vA h0 z0) 2 True Q 0 0 h0 z0 [(1, .int x1)] 21 [] (j x1)) ?_ (fun K2 HK2 => ?_)
  · intro x1
    refine v_iload_n C dA_widthFor_21 rfl 0 rfl ?_
    exact v_iret C dA_widthFor_22 (by rw [hQ])
  · refine lpG_ind (bot := (fun _ => none)) (B := LA_widthFor_2 p0 K2) (fun (r : Int32 → Option Int32) => ∀ (x3 : Int32), vO p l e (vR 0 0 0) s m args below meth c D dA (vA h0 z0) 2 True Q 0 0 h0 z0 [(0, .int p0), (1, .int x3)] 2 [] (r x3)) ?_ ?_ fu 1
    · intro x3
      exact v_none
    · intro rec4 Hrec4 x3
      unfold LA_widthFor_2
      refine v_iload_n C dA_widthFor_2 rfl 1 rfl ?_
      refine v_bipush (v := 6) C dA_widthFor_3 (by decide) ?_
      refine v_icmp_ge (tgt := 21) C dA_widthFor_5 (by decide) ?_ ?_
      · refine v_lv (lv' := [(1, .int x3)]) [1] rfl ?_
        exact HK2 x3
      · refine v_iconst (v := 1) C dA_widthFor_8 (by decide) ?_
        refine v_iload_n C dA_widthFor_9 rfl 1 rfl ?_
        refine v_ishl C dA_widthFor_10 ?_
        refine v_iload_n C dA_widthFor_11 rfl 0 rfl ?_
        refine v_icmp_ge (tgt := 21) C dA_widthFor_12 (by decide) ?_ ?_
        · refine v_lv (lv' := [(1, .int x3)]) [1] rfl ?_
          exact HK2 x3
        · refine v_iinc (v := (x3 + 1)) (lv' := [(0, .int p0), (1, .int (x3 + 1))]) C dA_widthFor_15 1 rfl rfl (by decide) [1, 0] rfl ?_
          refine v_goto (tgt := 2) C dA_widthFor_18 (by decide) ?_
          exact Hrec4 (x3 + 1)
theorem dA_mostNodes_0 : decode prog_1_method_23_code 0 = .ok (.iconst 2, 1) := by decide +kernel
theorem dA_mostNodes_1 : decode prog_1_method_23_code 1 = .ok (.iload_n 0, 1) := by decide +kernel
theorem dA_mostNodes_2 : decode prog_1_method_23_code 2 = .ok (.imul, 1) := by decide +kernel
theorem dA_mostNodes_3 : decode prog_1_method_23_code 3 = .ok (.iconst 1, 1) := by decide +kernel
theorem dA_mostNodes_4 : decode prog_1_method_23_code 4 = .ok (.iadd, 1) := by decide +kernel
theorem dA_mostNodes_5 : decode prog_1_method_23_code 5 = .ok (.ireturn, 1) := by decide +kernel
def FA_mostNodes (h0 : Hp) (p0 : Int32) : Option Int32 :=
  some ((2 * p0) + 1)
set_option maxRecDepth 100000 in
set_option maxHeartbeats 4000000 in
theorem mA_mostNodes (l : Launch) (h0 : Hp) (z0 : Nat) (p0 : Int32) (r : Int32) (hr : FA_mostNodes h0 p0 = some r) : vM True l yA_mostNodes (Cond.code yA_mostNodes prog_1_method_23_code 1 (some (.int)) :: gW) 0 [.int p0] h0 z0 h0 z0 (some (.int r)) 0 0 := by
  refine vM.of (by decide) rfl (Nat.le_of_ble_eq_true rfl) ?_
  intro p e s m args below meth c D dA C hin2
  refine (?_ : vO p l e (vR 0 0 0) s m args below meth c D dA (vA h0 z0) 1 True (fun r : Int32 => MQ below (vQc True h0 z0 D dA h0 z0 (some (.int r))) args s 0 0 (vAr True h0 z0)) 0 0 h0 z0 [(0, .int p0)] 0 [] (FA_mostNodes h0 p0)) r hr
  obtain ⟨Q, hQ⟩ : ∃ Q : Int32 → State → Prop, Q = (fun r : Int32 => MQ below (vQc True h0 z0 D dA h0 z0 (some (.int r))) args s 0 0 (vAr True h0 z0)) := ⟨_, rfl⟩
  rw [← hQ]
  unfold FA_mostNodes
  refine v_iconst (v := 2) C dA_mostNodes_0 (by decide) ?_
  refine v_iload_n C dA_mostNodes_1 rfl 0 rfl ?_
  refine v_imul C dA_mostNodes_2 ?_
  refine v_iconst (v := 1) C dA_mostNodes_3 (by decide) ?_
  refine v_iadd C dA_mostNodes_4 ?_
  exact v_iret C dA_mostNodes_5 (by rw [hQ])
theorem dC_init_0 : decode prog_2_method_1_code 0 = .ok (.aload_n 0, 1) := by decide +kernel
theorem dC_init_1 : decode prog_2_method_1_code 1 = .ok (.invokespecial 3, 3) := by decide +kernel
theorem dC_init_4 : decode prog_2_method_1_code 4 = .ok (.aload_n 0, 1) := by decide +kernel
theorem dC_init_5 : decode prog_2_method_1_code 5 = .ok (.iconst 0, 1) := by decide +kernel
theorem dC_init_6 : decode prog_2_method_1_code 6 = .ok (.putfield 9, 3) := by decide +kernel
theorem dC_init_9 : decode prog_2_method_1_code 9 = .ok (.aload_n 0, 1) := by decide +kernel
theorem dC_init_10 : decode prog_2_method_1_code 10 = .ok (.iload_n 1, 1) := by decide +kernel
theorem dC_init_11 : decode prog_2_method_1_code 11 = .ok (.newarray .int, 2) := by decide +kernel
theorem dC_init_13 : decode prog_2_method_1_code 13 = .ok (.putfield 15, 3) := by decide +kernel
theorem dC_init_16 : decode prog_2_method_1_code 16 = .ok (.return_, 1) := by decide +kernel
def FC_init (mc ms : Nat) (h0 : Hp) (z0 : Nat) (a0 : Nat) (p1 : Int32) : Option (Hp × Nat) :=
  
  pF h0 a0 0 1 (.int 0) (fun h1 =>
  gd ((0 ≤ (p1 : Int32).toInt ∧ (p1 : Int32).toInt ≤ 65536) ∧ 0 + 1 ≤ mc ∧ 0 + (p1 : Int32).toNatClampNeg ≤ ms) (nw h1 z0 (.inl (0, (p1 : Int32).toNatClampNeg, .inl (fun _ => 0))) (fun h2 =>
  pF h2 a0 0 0 (.ref z0) (fun h3 =>
  gd ((0 + 1) ≤ mc ∧ (0 + (p1 : Int32).toNatClampNeg) ≤ ms) (some (h3, (z0 + 1)))))))
set_option maxRecDepth 100000 in
set_option maxHeartbeats 4000000 in
theorem mC_init (l : Launch) (mc ms : Nat) (h0 : Hp) (z0 : Nat) (a0 : Nat) (p1 : Int32) (r : (Hp × Nat)) (hr : FC_init mc ms h0 z0 a0 p1 = some r) : vM False l yC_init (Cond.code yC_init prog_2_method_1_code 2 none :: gW) 1 [.ref a0, .int p1] h0 z0 r.1 r.2 none mc ms := by
  refine vM.of (by decide) rfl (Nat.le_of_ble_eq_true rfl) ?_
  intro p e s m args below meth c D dA C hin2
  refine (?_ : vO p l e (vR 1 mc ms) s m args below meth c D dA (vA h0 z0) 2 False (fun r : (Hp × Nat) => MQ below (vQc False h0 z0 D dA r.1 r.2 none) args s mc ms (vAr False h0 z0)) 0 0 h0 z0 [(0, .ref a0), (1, .int p1)] 0 [] (FC_init mc ms h0 z0 a0 p1)) r hr
  obtain ⟨Q, hQ⟩ : ∃ Q : (Hp × Nat) → State → Prop, Q = (fun r : (Hp × Nat) => MQ below (vQc False h0 z0 D dA r.1 r.2 none) args s mc ms (vAr False h0 z0)) := ⟨_, rfl⟩
  rw [← hQ]
  unfold FC_init
  refine v_aload_n C dC_init_0 rfl 0 rfl ?_
  refine v_objInit C w_110 w_65 w_66 dC_init_1 (Nat.le_of_ble_eq_true rfl) (Nat.le_of_ble_eq_true rfl) ?_
  refine v_aload_n C dC_init_4 rfl 0 rfl ?_
  refine v_iconst (v := 0) C dC_init_5 (by decide) ?_
  refine v_put C v_cl0 (by decide) in_0 ty_0 ty_0_ok nm_0 rfl w_112 rfl (ty := .int) (by decide +kernel) rfl rfl dC_init_6 (fun h1 => ?_)
  refine v_aload_n C dC_init_9 rfl 0 rfl ?_
  refine v_iload_n C dC_init_10 rfl 1 rfl ?_
  refine v_newaI C rfl w_92 dC_init_11 (fun h2 => ?_)
  refine v_putF C v_cl0 (by decide) in_0 ty_0 ty_0_ok nm_0 rfl w_111 rfl hin2 rfl (ty := .array .int) (by decide +kernel) rfl rfl dC_init_13 (fun h3 => ?_)
  exact v_vretW C dC_init_16 (by rw [hQ])
theorem dP_init_0 : decode prog_3_method_1_code 0 = .ok (.aload_n 0, 1) := by decide +kernel
theorem dP_init_1 : decode prog_3_method_1_code 1 = .ok (.invokespecial 3, 3) := by decide +kernel
theorem dP_init_4 : decode prog_3_method_1_code 4 = .ok (.aload_n 0, 1) := by decide +kernel
theorem dP_init_5 : decode prog_3_method_1_code 5 = .ok (.iconst 0, 1) := by decide +kernel
theorem dP_init_6 : decode prog_3_method_1_code 6 = .ok (.putfield 9, 3) := by decide +kernel
theorem dP_init_9 : decode prog_3_method_1_code 9 = .ok (.aload_n 0, 1) := by decide +kernel
theorem dP_init_10 : decode prog_3_method_1_code 10 = .ok (.iload_n 1, 1) := by decide +kernel
theorem dP_init_11 : decode prog_3_method_1_code 11 = .ok (.newarray .int, 2) := by decide +kernel
theorem dP_init_13 : decode prog_3_method_1_code 13 = .ok (.putfield 15, 3) := by decide +kernel
theorem dP_init_16 : decode prog_3_method_1_code 16 = .ok (.aload_n 0, 1) := by decide +kernel
theorem dP_init_17 : decode prog_3_method_1_code 17 = .ok (.iload_n 1, 1) := by decide +kernel
theorem dP_init_18 : decode prog_3_method_1_code 18 = .ok (.newarray .int, 2) := by decide +kernel
theorem dP_init_20 : decode prog_3_method_1_code 20 = .ok (.putfield 19, 3) := by decide +kernel
theorem dP_init_23 : decode prog_3_method_1_code 23 = .ok (.aload_n 0, 1) := by decide +kernel
theorem dP_init_24 : decode prog_3_method_1_code 24 = .ok (.iload_n 1, 1) := by decide +kernel
theorem dP_init_25 : decode prog_3_method_1_code 25 = .ok (.newarray .int, 2) := by decide +kernel
theorem dP_init_27 : decode prog_3_method_1_code 27 = .ok (.putfield 22, 3) := by decide +kernel
theorem dP_init_30 : decode prog_3_method_1_code 30 = .ok (.return_, 1) := by decide +kernel
def FP_init (mc ms : Nat) (h0 : Hp) (z0 : Nat) (a0 : Nat) (p1 : Int32) : Option (Hp × Nat) :=
  
  pF h0 a0 1 3 (.int 0) (fun h1 =>
  gd ((0 ≤ (p1 : Int32).toInt ∧ (p1 : Int32).toInt ≤ 65536) ∧ 0 + 1 ≤ mc ∧ 0 + (p1 : Int32).toNatClampNeg ≤ ms) (nw h1 z0 (.inl (0, (p1 : Int32).toNatClampNeg, .inl (fun _ => 0))) (fun h2 =>
  pF h2 a0 1 0 (.ref z0) (fun h3 =>
  gd ((0 ≤ (p1 : Int32).toInt ∧ (p1 : Int32).toInt ≤ 65536) ∧ (0 + 1) + 1 ≤ mc ∧ (0 + (p1 : Int32).toNatClampNeg) + (p1 : Int32).toNatClampNeg ≤ ms) (nw h3 (z0 + 1) (.inl (0, (p1 : Int32).toNatClampNeg, .inl (fun _ => 0))) (fun h4 =>
  pF h4 a0 1 1 (.ref (z0 + 1)) (fun h5 =>
  gd ((0 ≤ (p1 : Int32).toInt ∧ (p1 : Int32).toInt ≤ 65536) ∧ ((0 + 1) + 1) + 1 ≤ mc ∧ ((0 + (p1 : Int32).toNatClampNeg) + (p1 : Int32).toNatClampNeg) + (p1 : Int32).toNatClampNeg ≤ ms) (nw h5 ((z0 + 1) + 1) (.inl (0, (p1 : Int32).toNatClampNeg, .inl (fun _ => 0))) (fun h6 =>
  pF h6 a0 1 2 (.ref ((z0 + 1) + 1)) (fun h7 =>
  gd ((((0 + 1) + 1) + 1) ≤ mc ∧ (((0 + (p1 : Int32).toNatClampNeg) + (p1 : Int32).toNatClampNeg) + (p1 : Int32).toNatClampNeg) ≤ ms) (some (h7, (((z0 + 1) + 1) + 1)))))))))))))
set_option maxRecDepth 100000 in
set_option maxHeartbeats 4000000 in
theorem mP_init (l : Launch) (mc ms : Nat) (h0 : Hp) (z0 : Nat) (a0 : Nat) (p1 : Int32) (r : (Hp × Nat)) (hr : FP_init mc ms h0 z0 a0 p1 = some r) : vM False l yP_init (Cond.code yP_init prog_3_method_1_code 2 none :: gW) 1 [.ref a0, .int p1] h0 z0 r.1 r.2 none mc ms := by
  refine vM.of (by decide) rfl (Nat.le_of_ble_eq_true rfl) ?_
  intro p e s m args below meth c D dA C hin2
  refine (?_ : vO p l e (vR 1 mc ms) s m args below meth c D dA (vA h0 z0) 2 False (fun r : (Hp × Nat) => MQ below (vQc False h0 z0 D dA r.1 r.2 none) args s mc ms (vAr False h0 z0)) 0 0 h0 z0 [(0, .ref a0), (1, .int p1)] 0 [] (FP_init mc ms h0 z0 a0 p1)) r hr
  obtain ⟨Q, hQ⟩ : ∃ Q : (Hp × Nat) → State → Prop, Q = (fun r : (Hp × Nat) => MQ below (vQc False h0 z0 D dA r.1 r.2 none) args s mc ms (vAr False h0 z0)) := ⟨_, rfl⟩
  rw [← hQ]
  unfold FP_init
  refine v_aload_n C dP_init_0 rfl 0 rfl ?_
  refine v_objInit C w_124 w_65 w_66 dP_init_1 (Nat.le_of_ble_eq_true rfl) (Nat.le_of_ble_eq_true rfl) ?_
  refine v_aload_n C dP_init_4 rfl 0 rfl ?_
  refine v_iconst (v := 0) C dP_init_5 (by decide) ?_
  refine v_put C v_cl1 (by decide) in_1 ty_1 ty_1_ok nm_1 rfl w_131 rfl (ty := .int) (by decide +kernel) rfl rfl dP_init_6 (fun h1 => ?_)
  refine v_aload_n C dP_init_9 rfl 0 rfl ?_
  refine v_iload_n C dP_init_10 rfl 1 rfl ?_
  refine v_newaI C rfl w_92 dP_init_11 (fun h2 => ?_)
  refine v_putF C v_cl1 (by decide) in_1 ty_1 ty_1_ok nm_1 rfl w_125 rfl hin2 rfl (ty := .array .int) (by decide +kernel) rfl rfl dP_init_13 (fun h3 => ?_)
  refine v_aload_n C dP_init_16 rfl 0 rfl ?_
  refine v_iload_n C dP_init_17 rfl 1 rfl ?_
  refine v_newaI C rfl w_92 dP_init_18 (fun h4 => ?_)
  refine v_putF C v_cl1 (by decide) in_1 ty_1 ty_1_ok nm_1 rfl w_127 rfl hin2 rfl (ty := .array .int) (by decide +kernel) rfl rfl dP_init_20 (fun h5 => ?_)
  refine v_aload_n C dP_init_23 rfl 0 rfl ?_
  refine v_iload_n C dP_init_24 rfl 1 rfl ?_
  refine v_newaI C rfl w_92 dP_init_25 (fun h6 => ?_)
  refine v_putF C v_cl1 (by decide) in_1 ty_1 ty_1_ok nm_1 rfl w_129 rfl hin2 rfl (ty := .array .int) (by decide +kernel) rfl rfl dP_init_27 (fun h7 => ?_)
  exact v_vretW C dP_init_30 (by rw [hQ])
theorem dT_hasNode_0 : decode prog_5_method_6_code 0 = .ok (.iload_n 1, 1) := by decide +kernel
theorem dT_hasNode_1 : decode prog_5_method_6_code 1 = .ok (.ifCond .lt 24, 3) := by decide +kernel
theorem dT_hasNode_4 : decode prog_5_method_6_code 4 = .ok (.iload_n 1, 1) := by decide +kernel
theorem dT_hasNode_5 : decode prog_5_method_6_code 5 = .ok (.aload_n 0, 1) := by decide +kernel
theorem dT_hasNode_6 : decode prog_5_method_6_code 6 = .ok (.getfield 15, 3) := by decide +kernel
theorem dT_hasNode_9 : decode prog_5_method_6_code 9 = .ok (.if_icmp .ge 16, 3) := by decide +kernel
theorem dT_hasNode_12 : decode prog_5_method_6_code 12 = .ok (.iload_n 1, 1) := by decide +kernel
theorem dT_hasNode_13 : decode prog_5_method_6_code 13 = .ok (.aload_n 0, 1) := by decide +kernel
theorem dT_hasNode_14 : decode prog_5_method_6_code 14 = .ok (.getfield 39, 3) := by decide +kernel
theorem dT_hasNode_17 : decode prog_5_method_6_code 17 = .ok (.arraylength, 1) := by decide +kernel
theorem dT_hasNode_18 : decode prog_5_method_6_code 18 = .ok (.if_icmp .ge 7, 3) := by decide +kernel
theorem dT_hasNode_21 : decode prog_5_method_6_code 21 = .ok (.iconst 1, 1) := by decide +kernel
theorem dT_hasNode_22 : decode prog_5_method_6_code 22 = .ok (.goto 4, 3) := by decide +kernel
theorem dT_hasNode_25 : decode prog_5_method_6_code 25 = .ok (.iconst 0, 1) := by decide +kernel
theorem dT_hasNode_26 : decode prog_5_method_6_code 26 = .ok (.ireturn, 1) := by decide +kernel
def FT_hasNode (h0 : Hp) (a0 : Nat) (p1 : Int32) : Option Int32 :=
  jn (fun (y1 : Int32) =>
  gd (y1 = 0 ∨ y1 = 1) (some y1))
  (fun (j2 : Int32 → Option Int32) =>
  jn (j2 0)
  (fun (j3 : Option Int32) =>
  if p1 < 0 then
    (j3)
  else
    (gI h0 a0 3 9 (fun x4 =>
    if x4 ≤ p1 then
      (j3)
    else
      (gR h0 a0 3 3 (fun a5 =>
      alen h0 a5 0 (fun x6 =>
      if x6 ≤ p1 then
        (j3)
      else
        (j2 1))))))))
set_option maxRecDepth 100000 in
set_option maxHeartbeats 4000000 in
theorem mT_hasNode (l : Launch) (h0 : Hp) (z0 : Nat) (a0 : Nat) (p1 : Int32) (r : Int32) (hr : FT_hasNode h0 a0 p1 = some r) : vM True l yT_hasNode (Cond.code yT_hasNode prog_5_method_6_code 2 (some (.boolean)) :: gW) 0 [.ref a0, .int p1] h0 z0 h0 z0 (some (.int r)) 0 0 := by
  refine vM.of (by decide) rfl (Nat.le_of_ble_eq_true rfl) ?_
  intro p e s m args below meth c D dA C hin2
  refine (?_ : vO p l e (vR 0 0 0) s m args below meth c D dA (vA h0 z0) 2 True (fun r : Int32 => MQ below (vQc True h0 z0 D dA h0 z0 (some (.int r))) args s 0 0 (vAr True h0 z0)) 0 0 h0 z0 [(0, .ref a0), (1, .int p1)] 0 [] (FT_hasNode h0 a0 p1)) r hr
  obtain ⟨Q, hQ⟩ : ∃ Q : Int32 → State → Prop, Q = (fun r : Int32 => MQ below (vQc True h0 z0 D dA h0 z0 (some (.int r))) args s 0 0 (vAr True h0 z0)) := ⟨_, rfl⟩
  rw [← hQ]
  unfold FT_hasNode
  refine v_iload_n C dT_hasNode_0 rfl 1 rfl ?_
  refine v_jn (fun (j : Int32 → Option Int32) => ∀ (y1 : Int32), vO p l e (vR 0 0 0) s m args below meth c D dA (vA h0 z0) 2 True Q 0 0 h0 z0 [] 26 [.int y1] (j y1)) ?_ (fun j2 Hj2 => ?_)
  · intro y1
    exact v_zret C dT_hasNode_26 (by rw [hQ])
  · refine v_jn (fun (j : Option Int32) => vO p l e (vR 0 0 0) s m args below meth c D dA (vA h0 z0) 2 True Q 0 0 h0 z0 [] 25 [] j) ?_ (fun j3 Hj3 => ?_)
    · refine v_iconst (v := 0) C dT_hasNode_25 (by decide) ?_
      exact Hj2 0
    · refine v_if_lt (tgt := 25) C dT_hasNode_1 (by decide) ?_ ?_
      · refine v_lv (lv' := []) [] rfl ?_
        exact Hj3
      · refine v_iload_n C dT_hasNode_4 rfl 1 rfl ?_
        refine v_aload_n C dT_hasNode_5 rfl 0 rfl ?_
        refine v_getI C v_cl3 (by decide) in_3 rfl w_170 dT_hasNode_6 (fun x4 => ?_)
        refine v_icmp_ge (tgt := 25) C dT_hasNode_9 (by decide) ?_ ?_
        · refine v_lv (lv' := []) [] rfl ?_
          exact Hj3
        · refine v_iload_n C dT_hasNode_12 rfl 1 rfl ?_
          refine v_aload_n C dT_hasNode_13 rfl 0 rfl ?_
          refine v_getR C v_cl3 (by decide) in_3 rfl w_163 dT_hasNode_14 (fun a5 => ?_)
          refine v_alen C rfl dT_hasNode_17 (fun x6 => ?_)
          refine v_icmp_ge (tgt := 25) C dT_hasNode_18 (by decide) ?_ ?_
          · refine v_lv (lv' := []) [] rfl ?_
            exact Hj3
          · refine v_iconst (v := 1) C dT_hasNode_21 (by decide) ?_
            refine v_goto (tgt := 26) C dT_hasNode_22 (by decide) ?_
            refine v_lv (lv' := []) [] rfl ?_
            exact Hj2 1
theorem dT_fill_0 : decode prog_5_method_5_code 0 = .ok (.aload_n 0, 1) := by decide +kernel
theorem dT_fill_1 : decode prog_5_method_5_code 1 = .ok (.iload_n 1, 1) := by decide +kernel
theorem dT_fill_2 : decode prog_5_method_5_code 2 = .ok (.invokevirtual 64, 3) := by decide +kernel
theorem dT_fill_5 : decode prog_5_method_5_code 5 = .ok (.ifCond .ne 4, 3) := by decide +kernel
theorem dT_fill_8 : decode prog_5_method_5_code 8 = .ok (.return_, 1) := by decide +kernel
theorem dT_fill_9 : decode prog_5_method_5_code 9 = .ok (.aload_n 0, 1) := by decide +kernel
theorem dT_fill_10 : decode prog_5_method_5_code 10 = .ok (.getfield 35, 3) := by decide +kernel
theorem dT_fill_13 : decode prog_5_method_5_code 13 = .ok (.iload_n 1, 1) := by decide +kernel
theorem dT_fill_14 : decode prog_5_method_5_code 14 = .ok (.iload_n 2, 1) := by decide +kernel
theorem dT_fill_15 : decode prog_5_method_5_code 15 = .ok (.iastore, 1) := by decide +kernel
theorem dT_fill_16 : decode prog_5_method_5_code 16 = .ok (.aload_n 0, 1) := by decide +kernel
theorem dT_fill_17 : decode prog_5_method_5_code 17 = .ok (.getfield 39, 3) := by decide +kernel
theorem dT_fill_20 : decode prog_5_method_5_code 20 = .ok (.iload_n 1, 1) := by decide +kernel
theorem dT_fill_21 : decode prog_5_method_5_code 21 = .ok (.iload_n 3, 1) := by decide +kernel
theorem dT_fill_22 : decode prog_5_method_5_code 22 = .ok (.iastore, 1) := by decide +kernel
theorem dT_fill_23 : decode prog_5_method_5_code 23 = .ok (.aload_n 0, 1) := by decide +kernel
theorem dT_fill_24 : decode prog_5_method_5_code 24 = .ok (.getfield 45, 3) := by decide +kernel
theorem dT_fill_27 : decode prog_5_method_5_code 27 = .ok (.iload_n 1, 1) := by decide +kernel
theorem dT_fill_28 : decode prog_5_method_5_code 28 = .ok (.iload 4, 2) := by decide +kernel
theorem dT_fill_30 : decode prog_5_method_5_code 30 = .ok (.iastore, 1) := by decide +kernel
theorem dT_fill_31 : decode prog_5_method_5_code 31 = .ok (.aload_n 0, 1) := by decide +kernel
theorem dT_fill_32 : decode prog_5_method_5_code 32 = .ok (.getfield 48, 3) := by decide +kernel
theorem dT_fill_35 : decode prog_5_method_5_code 35 = .ok (.iload_n 1, 1) := by decide +kernel
theorem dT_fill_36 : decode prog_5_method_5_code 36 = .ok (.iload 5, 2) := by decide +kernel
theorem dT_fill_38 : decode prog_5_method_5_code 38 = .ok (.iastore, 1) := by decide +kernel
theorem dT_fill_39 : decode prog_5_method_5_code 39 = .ok (.aload_n 0, 1) := by decide +kernel
theorem dT_fill_40 : decode prog_5_method_5_code 40 = .ok (.iload 4, 2) := by decide +kernel
theorem dT_fill_42 : decode prog_5_method_5_code 42 = .ok (.invokevirtual 64, 3) := by decide +kernel
theorem dT_fill_45 : decode prog_5_method_5_code 45 = .ok (.ifCond .eq 31, 3) := by decide +kernel
theorem dT_fill_48 : decode prog_5_method_5_code 48 = .ok (.aload_n 0, 1) := by decide +kernel
theorem dT_fill_49 : decode prog_5_method_5_code 49 = .ok (.iload 5, 2) := by decide +kernel
theorem dT_fill_51 : decode prog_5_method_5_code 51 = .ok (.invokevirtual 64, 3) := by decide +kernel
theorem dT_fill_54 : decode prog_5_method_5_code 54 = .ok (.ifCond .eq 22, 3) := by decide +kernel
theorem dT_fill_57 : decode prog_5_method_5_code 57 = .ok (.aload_n 0, 1) := by decide +kernel
theorem dT_fill_58 : decode prog_5_method_5_code 58 = .ok (.getfield 42, 3) := by decide +kernel
theorem dT_fill_61 : decode prog_5_method_5_code 61 = .ok (.iload 4, 2) := by decide +kernel
theorem dT_fill_63 : decode prog_5_method_5_code 63 = .ok (.iload_n 1, 1) := by decide +kernel
theorem dT_fill_64 : decode prog_5_method_5_code 64 = .ok (.iastore, 1) := by decide +kernel
theorem dT_fill_65 : decode prog_5_method_5_code 65 = .ok (.aload_n 0, 1) := by decide +kernel
theorem dT_fill_66 : decode prog_5_method_5_code 66 = .ok (.getfield 42, 3) := by decide +kernel
theorem dT_fill_69 : decode prog_5_method_5_code 69 = .ok (.iload 5, 2) := by decide +kernel
theorem dT_fill_71 : decode prog_5_method_5_code 71 = .ok (.iload_n 1, 1) := by decide +kernel
theorem dT_fill_72 : decode prog_5_method_5_code 72 = .ok (.iastore, 1) := by decide +kernel
theorem dT_fill_73 : decode prog_5_method_5_code 73 = .ok (.goto 37, 3) := by decide +kernel
theorem dT_fill_76 : decode prog_5_method_5_code 76 = .ok (.iload_n 3, 1) := by decide +kernel
theorem dT_fill_77 : decode prog_5_method_5_code 77 = .ok (.bipush (-2), 2) := by decide +kernel
theorem dT_fill_79 : decode prog_5_method_5_code 79 = .ok (.if_icmp .ne 11, 3) := by decide +kernel
theorem dT_fill_82 : decode prog_5_method_5_code 82 = .ok (.aload_n 0, 1) := by decide +kernel
theorem dT_fill_83 : decode prog_5_method_5_code 83 = .ok (.iload_n 1, 1) := by decide +kernel
theorem dT_fill_84 : decode prog_5_method_5_code 84 = .ok (.putfield 18, 3) := by decide +kernel
theorem dT_fill_87 : decode prog_5_method_5_code 87 = .ok (.goto 23, 3) := by decide +kernel
theorem dT_fill_90 : decode prog_5_method_5_code 90 = .ok (.iload_n 3, 1) := by decide +kernel
theorem dT_fill_91 : decode prog_5_method_5_code 91 = .ok (.ifCond .lt 19, 3) := by decide +kernel
theorem dT_fill_94 : decode prog_5_method_5_code 94 = .ok (.iload_n 3, 1) := by decide +kernel
theorem dT_fill_95 : decode prog_5_method_5_code 95 = .ok (.aload_n 0, 1) := by decide +kernel
theorem dT_fill_96 : decode prog_5_method_5_code 96 = .ok (.getfield 51, 3) := by decide +kernel
theorem dT_fill_99 : decode prog_5_method_5_code 99 = .ok (.arraylength, 1) := by decide +kernel
theorem dT_fill_100 : decode prog_5_method_5_code 100 = .ok (.if_icmp .ge 10, 3) := by decide +kernel
theorem dT_fill_103 : decode prog_5_method_5_code 103 = .ok (.aload_n 0, 1) := by decide +kernel
theorem dT_fill_104 : decode prog_5_method_5_code 104 = .ok (.getfield 51, 3) := by decide +kernel
theorem dT_fill_107 : decode prog_5_method_5_code 107 = .ok (.iload_n 3, 1) := by decide +kernel
theorem dT_fill_108 : decode prog_5_method_5_code 108 = .ok (.iload_n 1, 1) := by decide +kernel
theorem dT_fill_109 : decode prog_5_method_5_code 109 = .ok (.iastore, 1) := by decide +kernel
theorem dT_fill_110 : decode prog_5_method_5_code 110 = .ok (.return_, 1) := by decide +kernel
def FT_fill (h0 : Hp) (a0 : Nat) (p1 : Int32) (p2 : Int32) (p3 : Int32) (p4 : Int32) (p5 : Int32) : Option Hp :=
  gd (isO h0 a0 3 = true) ((FT_hasNode h0 a0 p1).bind (fun r2 =>
  if r2 = 0 then
    (some h0)
  else
    (gR h0 a0 3 2 (fun a3 =>
    stI h0 a3 0 p1 p2 (fun h4 =>
    gR h4 a0 3 3 (fun a5 =>
    stI h4 a5 0 p1 p3 (fun h6 =>
    gR h6 a0 3 5 (fun a7 =>
    stI h6 a7 0 p1 p4 (fun h8 =>
    gR h8 a0 3 6 (fun a9 =>
    stI h8 a9 0 p1 p5 (fun h10 =>
    gd (isO h10 a0 3 = true) ((FT_hasNode h10 a0 p4).bind (fun r12 =>
    jn (fun (h13 : Hp) =>
    some h13)
    (fun (j14 : Hp → Option Hp) =>
    jn (if p3 = (-2) then
      (pF h10 a0 3 10 (.int p1) (fun h20 =>
      j14 h20))
    else
      (if p3 < 0 then
        (j14 h10)
      else
        (gR h10 a0 3 7 (fun a16 =>
        alen h10 a16 0 (fun x17 =>
        if x17 ≤ p3 then
          (j14 h10)
        else
          (gR h10 a0 3 7 (fun a18 =>
          stI h10 a18 0 p3 p1 (fun h19 =>
          j14 h19))))))))
    (fun (j15 : Option Hp) =>
    if r12 = 0 then
      (j15)
    else
      (gd (isO h10 a0 3 = true) ((FT_hasNode h10 a0 p5).bind (fun r22 =>
      if r22 = 0 then
        (j15)
      else
        (gR h10 a0 3 4 (fun a23 =>
        stI h10 a23 0 p4 p1 (fun h24 =>
        gR h24 a0 3 4 (fun a25 =>
        stI h24 a25 0 p5 p1 (fun h26 =>
        j14 h26)))))))))))))))))))))))
set_option maxRecDepth 100000 in
set_option maxHeartbeats 4000000 in
theorem mT_fill (l : Launch) (h0 : Hp) (z0 : Nat) (a0 : Nat) (p1 : Int32) (p2 : Int32) (p3 : Int32) (p4 : Int32) (p5 : Int32) (r : Hp) (hr : FT_fill h0 a0 p1 p2 p3 p4 p5 = some r) : vM False l yT_fill (Cond.code yT_fill prog_5_method_5_code 6 none :: gW) 1 [.ref a0, .int p1, .int p2, .int p3, .int p4, .int p5] h0 z0 r z0 none 0 0 := by
  refine vM.of (by decide) rfl (Nat.le_of_ble_eq_true rfl) ?_
  intro p e s m args below meth c D dA C hin2
  refine (?_ : vO p l e (vR 1 0 0) s m args below meth c D dA (vA h0 z0) 6 False (fun r : Hp => MQ below (vQc False h0 z0 D dA r z0 none) args s 0 0 (vAr False h0 z0)) 0 0 h0 z0 [(0, .ref a0), (1, .int p1), (2, .int p2), (3, .int p3), (4, .int p4), (5, .int p5)] 0 [] (FT_fill h0 a0 p1 p2 p3 p4 p5)) r hr
  obtain ⟨Q, hQ⟩ : ∃ Q : Hp → State → Prop, Q = (fun r : Hp => MQ below (vQc False h0 z0 D dA r z0 none) args s 0 0 (vAr False h0 z0)) := ⟨_, rfl⟩
  rw [← hQ]
  unfold FT_fill
  refine v_aload_n C dT_fill_0 rfl 0 rfl ?_
  refine v_iload_n C dT_fill_1 rfl 1 rfl ?_
  refine v_gd fun hO1 => ?_
  refine v_bind fun r2 hr2 => ?_
  refine v_callV0 (N := 1) (As := [.int p1]) (st := []) C (fun _ => trivial) (mT_hasNode l h0 z0 a0 p1 r2 hr2) rfl w_159 w_52 (by decide +kernel) ⟨Nat.le_of_ble_eq_true rfl, Nat.le_of_ble_eq_true rfl⟩ rfl rfl (Nat.le_of_ble_eq_true rfl) ⟨Nat.zero_le _, Nat.zero_le _⟩ w_156 w_157 w_158 v_cl3 rfl hO1 dT_fill_2 ?_
  refine v_if_ne (tgt := 9) C dT_fill_5 (by decide) ?_ ?_
  · refine v_aload_n C dT_fill_9 rfl 0 rfl ?_
    refine v_getR C v_cl3 (by decide) in_3 rfl w_162 dT_fill_10 (fun a3 => ?_)
    refine v_iload_n C dT_fill_13 rfl 1 rfl ?_
    refine v_iload_n C dT_fill_14 rfl 2 rfl ?_
    refine v_iast C rfl dT_fill_15 (fun h4 => ?_)
    refine v_aload_n C dT_fill_16 rfl 0 rfl ?_
    refine v_getR C v_cl3 (by decide) in_3 rfl w_163 dT_fill_17 (fun a5 => ?_)
    refine v_iload_n C dT_fill_20 rfl 1 rfl ?_
    refine v_iload_n C dT_fill_21 rfl 3 rfl ?_
    refine v_iast C rfl dT_fill_22 (fun h6 => ?_)
    refine v_aload_n C dT_fill_23 rfl 0 rfl ?_
    refine v_getR C v_cl3 (by decide) in_3 rfl w_165 dT_fill_24 (fun a7 => ?_)
    refine v_iload_n C dT_fill_27 rfl 1 rfl ?_
    refine v_iload C dT_fill_28 4 rfl ?_
    refine v_iast C rfl dT_fill_30 (fun h8 => ?_)
    refine v_aload_n C dT_fill_31 rfl 0 rfl ?_
    refine v_getR C v_cl3 (by decide) in_3 rfl w_166 dT_fill_32 (fun a9 => ?_)
    refine v_iload_n C dT_fill_35 rfl 1 rfl ?_
    refine v_iload C dT_fill_36 5 rfl ?_
    refine v_iast C rfl dT_fill_38 (fun h10 => ?_)
    refine v_aload_n C dT_fill_39 rfl 0 rfl ?_
    refine v_iload C dT_fill_40 4 rfl ?_
    refine v_gd fun hO11 => ?_
    refine v_bind fun r12 hr12 => ?_
    refine v_callV0 (N := 1) (As := [.int p4]) (st := []) C (fun _ => trivial) (mT_hasNode l h10 z0 a0 p4 r12 hr12) rfl w_159 w_52 (by decide +kernel) ⟨Nat.le_of_ble_eq_true rfl, Nat.le_of_ble_eq_true rfl⟩ rfl rfl (Nat.le_of_ble_eq_true rfl) ⟨Nat.zero_le _, Nat.zero_le _⟩ w_156 w_157 w_158 v_cl3 rfl hO11 dT_fill_42 ?_
    refine v_jn (fun (j : Hp → Option Hp) => ∀ (h13 : Hp), vO p l e (vR 1 0 0) s m args below meth c D dA (vA h0 z0) 6 False Q 0 0 h13 z0 [] 110 [] (j h13)) ?_ (fun j14 Hj14 => ?_)
    · intro h13
      exact v_vret C dT_fill_110 (by rw [hQ])
    · refine v_jn (fun (j : Option Hp) => vO p l e (vR 1 0 0) s m args below meth c D dA (vA h0 z0) 6 False Q 0 0 h10 z0 [(0, .ref a0), (1, .int p1), (3, .int p3)] 76 [] j) ?_ (fun j15 Hj15 => ?_)
      · refine v_iload_n C dT_fill_76 rfl 2 rfl ?_
        refine v_bipush (v := (-2)) C dT_fill_77 (by decide) ?_
        refine v_icmp_ne (tgt := 90) C dT_fill_79 (by decide) ?_ ?_
        · refine v_iload_n C dT_fill_90 rfl 2 rfl ?_
          refine v_if_lt (tgt := 110) C dT_fill_91 (by decide) ?_ ?_
          · refine v_lv (lv' := []) [] rfl ?_
            exact Hj14 h10
          · refine v_iload_n C dT_fill_94 rfl 2 rfl ?_
            refine v_aload_n C dT_fill_95 rfl 0 rfl ?_
            refine v_getR C v_cl3 (by decide) in_3 rfl w_167 dT_fill_96 (fun a16 => ?_)
            refine v_alen C rfl dT_fill_99 (fun x17 => ?_)
            refine v_icmp_ge (tgt := 110) C dT_fill_100 (by decide) ?_ ?_
            · refine v_lv (lv' := []) [] rfl ?_
              exact Hj14 h10
            · refine v_aload_n C dT_fill_103 rfl 0 rfl ?_
              refine v_getR C v_cl3 (by decide) in_3 rfl w_167 dT_fill_104 (fun a18 => ?_)
              refine v_iload_n C dT_fill_107 rfl 2 rfl ?_
              refine v_iload_n C dT_fill_108 rfl 1 rfl ?_
              refine v_iast C rfl dT_fill_109 (fun h19 => ?_)
              refine v_lv (lv' := []) [] rfl ?_
              exact Hj14 h19
        · refine v_aload_n C dT_fill_82 rfl 0 rfl ?_
          refine v_iload_n C dT_fill_83 rfl 1 rfl ?_
          refine v_put C v_cl3 (by decide) in_3 ty_3 ty_3_ok nm_3 rfl w_172 rfl (ty := .int) (by decide +kernel) rfl rfl dT_fill_84 (fun h20 => ?_)
          refine v_goto (tgt := 110) C dT_fill_87 (by decide) ?_
          refine v_lv (lv' := []) [] rfl ?_
          exact Hj14 h20
      · refine v_if_eq (tgt := 76) C dT_fill_45 (by decide) ?_ ?_
        · refine v_lv (lv' := [(0, .ref a0), (1, .int p1), (3, .int p3)]) [0, 1, 3] rfl ?_
          exact Hj15
        · refine v_aload_n C dT_fill_48 rfl 0 rfl ?_
          refine v_iload C dT_fill_49 5 rfl ?_
          refine v_gd fun hO21 => ?_
          refine v_bind fun r22 hr22 => ?_
          refine v_callV0 (N := 1) (As := [.int p5]) (st := []) C (fun _ => trivial) (mT_hasNode l h10 z0 a0 p5 r22 hr22) rfl w_159 w_52 (by decide +kernel) ⟨Nat.le_of_ble_eq_true rfl, Nat.le_of_ble_eq_true rfl⟩ rfl rfl (Nat.le_of_ble_eq_true rfl) ⟨Nat.zero_le _, Nat.zero_le _⟩ w_156 w_157 w_158 v_cl3 rfl hO21 dT_fill_51 ?_
          refine v_if_eq (tgt := 76) C dT_fill_54 (by decide) ?_ ?_
          · refine v_lv (lv' := [(0, .ref a0), (1, .int p1), (3, .int p3)]) [0, 1, 3] rfl ?_
            exact Hj15
          · refine v_aload_n C dT_fill_57 rfl 0 rfl ?_
            refine v_getR C v_cl3 (by decide) in_3 rfl w_164 dT_fill_58 (fun a23 => ?_)
            refine v_iload C dT_fill_61 4 rfl ?_
            refine v_iload_n C dT_fill_63 rfl 1 rfl ?_
            refine v_iast C rfl dT_fill_64 (fun h24 => ?_)
            refine v_aload_n C dT_fill_65 rfl 0 rfl ?_
            refine v_getR C v_cl3 (by decide) in_3 rfl w_164 dT_fill_66 (fun a25 => ?_)
            refine v_iload C dT_fill_69 5 rfl ?_
            refine v_iload_n C dT_fill_71 rfl 1 rfl ?_
            refine v_iast C rfl dT_fill_72 (fun h26 => ?_)
            refine v_goto (tgt := 110) C dT_fill_73 (by decide) ?_
            refine v_lv (lv' := []) [] rfl ?_
            exact Hj14 h26
  · exact v_vret C dT_fill_8 (by rw [hQ])
theorem dT_beginCounted_0 : decode prog_5_method_3_code 0 = .ok (.aload_n 0, 1) := by decide +kernel
theorem dT_beginCounted_1 : decode prog_5_method_3_code 1 = .ok (.iconst 0, 1) := by decide +kernel
theorem dT_beginCounted_2 : decode prog_5_method_3_code 2 = .ok (.putfield 9, 3) := by decide +kernel
theorem dT_beginCounted_5 : decode prog_5_method_3_code 5 = .ok (.aload_n 0, 1) := by decide +kernel
theorem dT_beginCounted_6 : decode prog_5_method_3_code 6 = .ok (.iconst 0, 1) := by decide +kernel
theorem dT_beginCounted_7 : decode prog_5_method_3_code 7 = .ok (.putfield 21, 3) := by decide +kernel
theorem dT_beginCounted_10 : decode prog_5_method_3_code 10 = .ok (.iconst 0, 1) := by decide +kernel
theorem dT_beginCounted_11 : decode prog_5_method_3_code 11 = .ok (.istore_n 1, 1) := by decide +kernel
theorem dT_beginCounted_12 : decode prog_5_method_3_code 12 = .ok (.iload_n 1, 1) := by decide +kernel
theorem dT_beginCounted_13 : decode prog_5_method_3_code 13 = .ok (.aload_n 0, 1) := by decide +kernel
theorem dT_beginCounted_14 : decode prog_5_method_3_code 14 = .ok (.getfield 24, 3) := by decide +kernel
theorem dT_beginCounted_17 : decode prog_5_method_3_code 17 = .ok (.if_icmp .ge 16, 3) := by decide +kernel
theorem dT_beginCounted_20 : decode prog_5_method_3_code 20 = .ok (.aload_n 0, 1) := by decide +kernel
theorem dT_beginCounted_21 : decode prog_5_method_3_code 21 = .ok (.getfield 51, 3) := by decide +kernel
theorem dT_beginCounted_24 : decode prog_5_method_3_code 24 = .ok (.iload_n 1, 1) := by decide +kernel
theorem dT_beginCounted_25 : decode prog_5_method_3_code 25 = .ok (.iconst (-1), 1) := by decide +kernel
theorem dT_beginCounted_26 : decode prog_5_method_3_code 26 = .ok (.iastore, 1) := by decide +kernel
theorem dT_beginCounted_27 : decode prog_5_method_3_code 27 = .ok (.iinc 1 1, 3) := by decide +kernel
theorem dT_beginCounted_30 : decode prog_5_method_3_code 30 = .ok (.goto (-18), 3) := by decide +kernel
theorem dT_beginCounted_33 : decode prog_5_method_3_code 33 = .ok (.aload_n 0, 1) := by decide +kernel
theorem dT_beginCounted_34 : decode prog_5_method_3_code 34 = .ok (.iconst 1, 1) := by decide +kernel
theorem dT_beginCounted_35 : decode prog_5_method_3_code 35 = .ok (.putfield 15, 3) := by decide +kernel
theorem dT_beginCounted_38 : decode prog_5_method_3_code 38 = .ok (.aload_n 0, 1) := by decide +kernel
theorem dT_beginCounted_39 : decode prog_5_method_3_code 39 = .ok (.getfield 42, 3) := by decide +kernel
theorem dT_beginCounted_42 : decode prog_5_method_3_code 42 = .ok (.iconst 0, 1) := by decide +kernel
theorem dT_beginCounted_43 : decode prog_5_method_3_code 43 = .ok (.iconst (-1), 1) := by decide +kernel
theorem dT_beginCounted_44 : decode prog_5_method_3_code 44 = .ok (.iastore, 1) := by decide +kernel
theorem dT_beginCounted_45 : decode prog_5_method_3_code 45 = .ok (.aload_n 0, 1) := by decide +kernel
theorem dT_beginCounted_46 : decode prog_5_method_3_code 46 = .ok (.iconst 0, 1) := by decide +kernel
theorem dT_beginCounted_47 : decode prog_5_method_3_code 47 = .ok (.iconst 0, 1) := by decide +kernel
theorem dT_beginCounted_48 : decode prog_5_method_3_code 48 = .ok (.bipush (-2), 2) := by decide +kernel
theorem dT_beginCounted_50 : decode prog_5_method_3_code 50 = .ok (.iconst (-1), 1) := by decide +kernel
theorem dT_beginCounted_51 : decode prog_5_method_3_code 51 = .ok (.iconst (-1), 1) := by decide +kernel
theorem dT_beginCounted_52 : decode prog_5_method_3_code 52 = .ok (.invokevirtual 60, 3) := by decide +kernel
theorem dT_beginCounted_55 : decode prog_5_method_3_code 55 = .ok (.return_, 1) := by decide +kernel
def LT_beginCounted_12 (a0 : Nat) (K4 : Hp → Option Hp) (rec12 : Hp → Int32 → Option Hp) (h10 : Hp) (x11 : Int32) : Option Hp :=
  gI h10 a0 3 0 (fun x13 =>
  if x13 ≤ x11 then
    (K4 h10)
  else
    (gR h10 a0 3 7 (fun a14 =>
    stI h10 a14 0 x11 (-1) (fun h15 =>
    rec12 h15 (x11 + 1)))))
def FT_beginCounted (h0 : Hp) (a0 : Nat) : Option Hp :=
  pF h0 a0 3 8 (.int 0) (fun h1 =>
  pF h1 a0 3 11 (.int 0) (fun h2 =>
  jn (fun (h3 : Hp) =>
  pF h3 a0 3 9 (.int 1) (fun h5 =>
  gR h5 a0 3 4 (fun a6 =>
  stI h5 a6 0 0 (-1) (fun h7 =>
  gd (isO h7 a0 3 = true) ((FT_fill h7 a0 0 0 (-2) (-1) (-1)).bind (fun r9 =>
  some r9))))))
  (fun (K4 : Hp → Option Hp) =>
  lpG (fun _ _ => none) fu (LT_beginCounted_12 a0 K4) h2 0)))
set_option maxRecDepth 100000 in
set_option maxHeartbeats 4000000 in
theorem mT_beginCounted (l : Launch) (h0 : Hp) (z0 : Nat) (a0 : Nat) (r : Hp) (hr : FT_beginCounted h0 a0 = some r) : vM False l yT_beginCounted (Cond.code yT_beginCounted prog_5_method_3_code 2 none :: gW) 2 [.ref a0] h0 z0 r z0 none 0 0 := by
  refine vM.of (by decide) rfl (Nat.le_of_ble_eq_true rfl) ?_
  intro p e s m args below meth c D dA C hin2
  refine (?_ : vO p l e (vR 2 0 0) s m args below meth c D dA (vA h0 z0) 2 False (fun r : Hp => MQ below (vQc False h0 z0 D dA r z0 none) args s 0 0 (vAr False h0 z0)) 0 0 h0 z0 [(0, .ref a0)] 0 [] (FT_beginCounted h0 a0)) r hr
  obtain ⟨Q, hQ⟩ : ∃ Q : Hp → State → Prop, Q = (fun r : Hp => MQ below (vQc False h0 z0 D dA r z0 none) args s 0 0 (vAr False h0 z0)) := ⟨_, rfl⟩
  rw [← hQ]
  unfold FT_beginCounted
  refine v_aload_n C dT_beginCounted_0 rfl 0 rfl ?_
  refine v_iconst (v := 0) C dT_beginCounted_1 (by decide) ?_
  refine v_put C v_cl3 (by decide) in_3 ty_3 ty_3_ok nm_3 rfl w_168 rfl (ty := .int) (by decide +kernel) rfl rfl dT_beginCounted_2 (fun h1 => ?_)
  refine v_aload_n C dT_beginCounted_5 rfl 0 rfl ?_
  refine v_iconst (v := 0) C dT_beginCounted_6 (by decide) ?_
  refine v_put C v_cl3 (by decide) in_3 ty_3 ty_3_ok nm_3 rfl w_174 rfl (ty := .int) (by decide +kernel) rfl rfl dT_beginCounted_7 (fun h2 => ?_)
  refine v_iconst (v := 0) C dT_beginCounted_10 (by decide) ?_
  refine v_istore_n (lv' := [(0, .ref a0), (1, .int 0)]) C dT_beginCounted_11 rfl (by decide) [1, 0] rfl ?_
  refine v_jn (fun (j : Hp → Option Hp) => ∀ (h3 : Hp), vO p l e (vR 2 0 0) s m args below meth c D dA (vA h0 z0) 2 False Q 0 0 h3 z0 [(0, .ref a0)] 33 [] (j h3)) ?_ (fun K4 HK4 => ?_)
  · intro h3
    refine v_aload_n C dT_beginCounted_33 rfl 0 rfl ?_
    refine v_iconst (v := 1) C dT_beginCounted_34 (by decide) ?_
    refine v_put C v_cl3 (by decide) in_3 ty_3 ty_3_ok nm_3 rfl w_170 rfl (ty := .int) (by decide +kernel) rfl rfl dT_beginCounted_35 (fun h5 => ?_)
    refine v_aload_n C dT_beginCounted_38 rfl 0 rfl ?_
    refine v_getR C v_cl3 (by decide) in_3 rfl w_164 dT_beginCounted_39 (fun a6 => ?_)
    refine v_iconst (v := 0) C dT_beginCounted_42 (by decide) ?_
    refine v_iconst (v := (-1)) C dT_beginCounted_43 (by decide) ?_
    refine v_iast C rfl dT_beginCounted_44 (fun h7 => ?_)
    refine v_aload_n C dT_beginCounted_45 rfl 0 rfl ?_
    refine v_iconst (v := 0) C dT_beginCounted_46 (by decide) ?_
    refine v_iconst (v := 0) C dT_beginCounted_47 (by decide) ?_
    refine v_bipush (v := (-2)) C dT_beginCounted_48 (by decide) ?_
    refine v_iconst (v := (-1)) C dT_beginCounted_50 (by decide) ?_
    refine v_iconst (v := (-1)) C dT_beginCounted_51 (by decide) ?_
    refine v_gd fun hO8 => ?_
    refine v_bind fun r9 hr9 => ?_
    refine v_callV0 (N := 5) (As := [.int 0, .int 0, .int (-2), .int (-1), .int (-1)]) (st := []) C (fun f => f.elim) (mT_fill l h7 z0 a0 0 0 (-2) (-1) (-1) r9 hr9) rfl w_155 w_52 (by decide +kernel) ⟨Nat.le_of_ble_eq_true rfl, Nat.le_of_ble_eq_true rfl⟩ rfl rfl (Nat.le_of_ble_eq_true rfl) ⟨Nat.zero_le _, Nat.zero_le _⟩ w_152 w_154 w_1 v_cl3 rfl hO8 dT_beginCounted_52 ?_
    exact v_vret C dT_beginCounted_55 (by rw [hQ])
  · refine lpG_ind (bot := (fun _ _ => none)) (B := LT_beginCounted_12 a0 K4) (fun (r : Hp → Int32 → Option Hp) => ∀ (h10 : Hp), ∀ (x11 : Int32), vO p l e (vR 2 0 0) s m args below meth c D dA (vA h0 z0) 2 False Q 0 0 h10 z0 [(0, .ref a0), (1, .int x11)] 12 [] (r h10 x11)) ?_ ?_ fu h2 0
    · intro h10 x11
      exact v_none
    · intro rec12 Hrec12 h10 x11
      unfold LT_beginCounted_12
      refine v_iload_n C dT_beginCounted_12 rfl 1 rfl ?_
      refine v_aload_n C dT_beginCounted_13 rfl 0 rfl ?_
      refine v_getI C v_cl3 (by decide) in_3 rfl w_160 dT_beginCounted_14 (fun x13 => ?_)
      refine v_icmp_ge (tgt := 33) C dT_beginCounted_17 (by decide) ?_ ?_
      · refine v_lv (lv' := [(0, .ref a0)]) [0] rfl ?_
        exact HK4 h10
      · refine v_aload_n C dT_beginCounted_20 rfl 0 rfl ?_
        refine v_getR C v_cl3 (by decide) in_3 rfl w_167 dT_beginCounted_21 (fun a14 => ?_)
        refine v_iload_n C dT_beginCounted_24 rfl 1 rfl ?_
        refine v_iconst (v := (-1)) C dT_beginCounted_25 (by decide) ?_
        refine v_iast C rfl dT_beginCounted_26 (fun h15 => ?_)
        refine v_iinc (v := (x11 + 1)) (lv' := [(0, .ref a0), (1, .int (x11 + 1))]) C dT_beginCounted_27 1 rfl rfl (by decide) [1, 0] rfl ?_
        refine v_goto (tgt := 12) C dT_beginCounted_30 (by decide) ?_
        exact Hrec12 h15 (x11 + 1)
