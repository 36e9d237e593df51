theorem dA_halved_0 : decode prog_1_method_15_code 0 = .ok (.iload_n 1, 1) := by decide +kernel
theorem dA_halved_1 : decode prog_1_method_15_code 1 = .ok (.invokestatic 123, 3) := by decide +kernel
theorem dA_halved_4 : decode prog_1_method_15_code 4 = .ok (.ifCond .eq 22, 3) := by decide +kernel
theorem dA_halved_7 : decode prog_1_method_15_code 7 = .ok (.iload_n 2, 1) := by decide +kernel
theorem dA_halved_8 : decode prog_1_method_15_code 8 = .ok (.invokestatic 83, 3) := by decide +kernel
theorem dA_halved_11 : decode prog_1_method_15_code 11 = .ok (.ifCond .eq 15, 3) := by decide +kernel
theorem dA_halved_14 : decode prog_1_method_15_code 14 = .ok (.aload_n 0, 1) := by decide +kernel
theorem dA_halved_15 : decode prog_1_method_15_code 15 = .ok (.iload_n 1, 1) := by decide +kernel
theorem dA_halved_16 : decode prog_1_method_15_code 16 = .ok (.iload_n 2, 1) := by decide +kernel
theorem dA_halved_17 : decode prog_1_method_15_code 17 = .ok (.invokevirtual 126, 3) := by decide +kernel
theorem dA_halved_20 : decode prog_1_method_15_code 20 = .ok (.getfield 143, 3) := by decide +kernel
theorem dA_halved_23 : decode prog_1_method_15_code 23 = .ok (.goto 5, 3) := by decide +kernel
theorem dA_halved_26 : decode prog_1_method_15_code 26 = .ok (.bipush (-2), 2) := by decide +kernel
theorem dA_halved_28 : decode prog_1_method_15_code 28 = .ok (.ireturn, 1) := by decide +kernel
def FA_halved (h0 : Hp) (a0 : Nat) (p1 : Int32) (p2 : Int32) : Option Int32 :=
  (FA_isEnd h0 p1).bind (fun r1 =>
  jn (fun (y2 : Int32) =>
  some y2)
  (fun (j3 : Int32 → Option Int32) =>
  jn (j3 (-2))
  (fun (j4 : Option Int32) =>
  if r1 = 0 then
    (j4)
  else
    ((FA_isTree h0 p2).bind (fun r5 =>
    if r5 = 0 then
      (j4)
    else
      (gd (isO h0 a0 4 = true) ((FA_treeOf h0 a0 p1 p2).bind (fun r7 =>
      gI h0 r7 3 11 (fun x8 =>
      j3 x8)))))))))
set_option maxRecDepth 100000 in
set_option maxHeartbeats 4000000 in
theorem mA_halved (l : Launch) (h0 : Hp) (z0 : Nat) (a0 : Nat) (p1 : Int32) (p2 : Int32) (r : Int32) (hr : FA_halved h0 a0 p1 p2 = some r) : vM True l yA_halved (Cond.code yA_halved prog_1_method_15_code 3 (some (.int)) :: gW) 1 [.ref a0, .int p1, .int p2] h0 z0 h0 z0 (some (.int r)) 0 0 := by
  refine vM.of (by decide) rfl (Nat.le_of_ble_eq_true rfl) ?_
  intro p e s m args below meth c D dA C hin2
  refine (?_ : vO p l e (vR 1 0 0) s m args below meth c D dA (vA h0 z0) 3 True (fun r : Int32 => MQ below (vQc True h0 z0 D dA h0 z0 (some (.int r))) args s 0 0 (vAr True h0 z0)) 0 0 h0 z0 [(0, .ref a0), (1, .int p1), (2, .int p2)] 0 [] (FA_halved h0 a0 p1 p2)) r hr
  obtain ⟨Q, hQ⟩ : ∃ Q : Int32 → State → Prop, Q = (fun r : Int32 => MQ below (vQc True h0 z0 D dA h0 z0 (some (.int r))) args s 0 0 (vAr True h0 z0)) := ⟨_, rfl⟩
  rw [← hQ]
  unfold FA_halved
  refine v_iload_n C dA_halved_0 rfl 1 rfl ?_
  refine v_bind fun r1 hr1 => ?_
  refine v_callS0 (N := 1) (As := [.int p1]) (st := []) C (fun _ => trivial) (mA_isEnd l h0 z0 p1 r1 hr1) rfl w_435 w_47 (by decide +kernel) ⟨Nat.le_of_ble_eq_true rfl, Nat.le_of_ble_eq_true rfl⟩ rfl rfl (Nat.le_of_ble_eq_true rfl) ⟨Nat.zero_le _, Nat.zero_le _⟩ w_433 w_434 dA_halved_1 ?_
  refine v_jn (fun (j : Int32 → Option Int32) => ∀ (y2 : Int32), vO p l e (vR 1 0 0) s m args below meth c D dA (vA h0 z0) 3 True Q 0 0 h0 z0 [] 28 [.int y2] (j y2)) ?_ (fun j3 Hj3 => ?_)
  · intro y2
    exact v_iret C dA_halved_28 (by rw [hQ])
  · refine v_jn (fun (j : Option Int32) => vO p l e (vR 1 0 0) s m args below meth c D dA (vA h0 z0) 3 True Q 0 0 h0 z0 [] 26 [] j) ?_ (fun j4 Hj4 => ?_)
    · refine v_bipush (v := (-2)) C dA_halved_26 (by decide) ?_
      exact Hj3 (-2)
    · refine v_if_eq (tgt := 26) C dA_halved_4 (by decide) ?_ ?_
      · refine v_lv (lv' := []) [] rfl ?_
        exact Hj4
      · refine v_iload_n C dA_halved_7 rfl 2 rfl ?_
        refine v_bind fun r5 hr5 => ?_
        refine v_callS0 (N := 1) (As := [.int p2]) (st := []) C (fun _ => trivial) (mA_isTree l h0 z0 p2 r5 hr5) rfl w_244 w_47 (by decide +kernel) ⟨Nat.le_of_ble_eq_true rfl, Nat.le_of_ble_eq_true rfl⟩ rfl rfl (Nat.le_of_ble_eq_true rfl) ⟨Nat.zero_le _, Nat.zero_le _⟩ w_242 w_243 dA_halved_8 ?_
        refine v_if_eq (tgt := 26) C dA_halved_11 (by decide) ?_ ?_
        · refine v_lv (lv' := []) [] rfl ?_
          exact Hj4
        · refine v_aload_n C dA_halved_14 rfl 0 rfl ?_
          refine v_iload_n C dA_halved_15 rfl 1 rfl ?_
          refine v_iload_n C dA_halved_16 rfl 2 rfl ?_
          refine v_gd fun hO6 => ?_
          refine v_bind fun r7 hr7 => ?_
          refine v_callV0 (N := 2) (As := [.int p1, .int p2]) (st := []) C (fun _ => trivial) (mA_treeOf l h0 z0 a0 p1 p2 r7 hr7) rfl w_439 w_47 (by decide +kernel) ⟨Nat.le_of_ble_eq_true rfl, Nat.le_of_ble_eq_true rfl⟩ rfl rfl (Nat.le_of_ble_eq_true rfl) ⟨Nat.zero_le _, Nat.zero_le _⟩ w_436 w_438 w_18 v_cl4 rfl hO6 dA_halved_17 ?_
          refine v_getIN C v_cl3 (by decide) in_3 rfl (nf_3 C.2.2.2.2.2.2.2.2.2) dA_halved_20 (fun x8 => ?_)
          refine v_goto (tgt := 28) C dA_halved_23 (by decide) ?_
          refine v_lv (lv' := []) [] rfl ?_
          exact Hj3 x8
theorem dA_nodes_0 : decode prog_1_method_16_code 0 = .ok (.iload_n 1, 1) := by decide +kernel
theorem dA_nodes_1 : decode prog_1_method_16_code 1 = .ok (.invokestatic 123, 3) := by decide +kernel
theorem dA_nodes_4 : decode prog_1_method_16_code 4 = .ok (.ifCond .eq 22, 3) := by decide +kernel
theorem dA_nodes_7 : decode prog_1_method_16_code 7 = .ok (.iload_n 2, 1) := by decide +kernel
theorem dA_nodes_8 : decode prog_1_method_16_code 8 = .ok (.invokestatic 83, 3) := by decide +kernel
theorem dA_nodes_11 : decode prog_1_method_16_code 11 = .ok (.ifCond .eq 15, 3) := by decide +kernel
theorem dA_nodes_14 : decode prog_1_method_16_code 14 = .ok (.aload_n 0, 1) := by decide +kernel
theorem dA_nodes_15 : decode prog_1_method_16_code 15 = .ok (.iload_n 1, 1) := by decide +kernel
theorem dA_nodes_16 : decode prog_1_method_16_code 16 = .ok (.iload_n 2, 1) := by decide +kernel
theorem dA_nodes_17 : decode prog_1_method_16_code 17 = .ok (.invokevirtual 126, 3) := by decide +kernel
theorem dA_nodes_20 : decode prog_1_method_16_code 20 = .ok (.getfield 146, 3) := by decide +kernel
theorem dA_nodes_23 : decode prog_1_method_16_code 23 = .ok (.goto 5, 3) := by decide +kernel
theorem dA_nodes_26 : decode prog_1_method_16_code 26 = .ok (.bipush (-2), 2) := by decide +kernel
theorem dA_nodes_28 : decode prog_1_method_16_code 28 = .ok (.ireturn, 1) := by decide +kernel
def FA_nodes (h0 : Hp) (a0 : Nat) (p1 : Int32) (p2 : Int32) : Option Int32 :=
  (FA_isEnd h0 p1).bind (fun r1 =>
  jn (fun (y2 : Int32) =>
  some y2)
  (fun (j3 : Int32 → Option Int32) =>
  jn (j3 (-2))
  (fun (j4 : Option Int32) =>
  if r1 = 0 then
    (j4)
  else
    ((FA_isTree h0 p2).bind (fun r5 =>
    if r5 = 0 then
      (j4)
    else
      (gd (isO h0 a0 4 = true) ((FA_treeOf h0 a0 p1 p2).bind (fun r7 =>
      gI h0 r7 3 9 (fun x8 =>
      j3 x8)))))))))
set_option maxRecDepth 100000 in
set_option maxHeartbeats 4000000 in
theorem mA_nodes (l : Launch) (h0 : Hp) (z0 : Nat) (a0 : Nat) (p1 : Int32) (p2 : Int32) (r : Int32) (hr : FA_nodes h0 a0 p1 p2 = some r) : vM True l yA_nodes (Cond.code yA_nodes prog_1_method_16_code 3 (some (.int)) :: gW) 1 [.ref a0, .int p1, .int p2] h0 z0 h0 z0 (some (.int r)) 0 0 := by
  refine vM.of (by decide) rfl (Nat.le_of_ble_eq_true rfl) ?_
  intro p e s m args below meth c D dA C hin2
  refine (?_ : vO p l e (vR 1 0 0) s m args below meth c D dA (vA h0 z0) 3 True (fun r : Int32 => MQ below (vQc True h0 z0 D dA h0 z0 (some (.int r))) args s 0 0 (vAr True h0 z0)) 0 0 h0 z0 [(0, .ref a0), (1, .int p1), (2, .int p2)] 0 [] (FA_nodes h0 a0 p1 p2)) r hr
  obtain ⟨Q, hQ⟩ : ∃ Q : Int32 → State → Prop, Q = (fun r : Int32 => MQ below (vQc True h0 z0 D dA h0 z0 (some (.int r))) args s 0 0 (vAr True h0 z0)) := ⟨_, rfl⟩
  rw [← hQ]
  unfold FA_nodes
  refine v_iload_n C dA_nodes_0 rfl 1 rfl ?_
  refine v_bind fun r1 hr1 => ?_
  refine v_callS0 (N := 1) (As := [.int p1]) (st := []) C (fun _ => trivial) (mA_isEnd l h0 z0 p1 r1 hr1) rfl w_435 w_47 (by decide +kernel) ⟨Nat.le_of_ble_eq_true rfl, Nat.le_of_ble_eq_true rfl⟩ rfl rfl (Nat.le_of_ble_eq_true rfl) ⟨Nat.zero_le _, Nat.zero_le _⟩ w_433 w_434 dA_nodes_1 ?_
  refine v_jn (fun (j : Int32 → Option Int32) => ∀ (y2 : Int32), vO p l e (vR 1 0 0) s m args below meth c D dA (vA h0 z0) 3 True Q 0 0 h0 z0 [] 28 [.int y2] (j y2)) ?_ (fun j3 Hj3 => ?_)
  · intro y2
    exact v_iret C dA_nodes_28 (by rw [hQ])
  · refine v_jn (fun (j : Option Int32) => vO p l e (vR 1 0 0) s m args below meth c D dA (vA h0 z0) 3 True Q 0 0 h0 z0 [] 26 [] j) ?_ (fun j4 Hj4 => ?_)
    · refine v_bipush (v := (-2)) C dA_nodes_26 (by decide) ?_
      exact Hj3 (-2)
    · refine v_if_eq (tgt := 26) C dA_nodes_4 (by decide) ?_ ?_
      · refine v_lv (lv' := []) [] rfl ?_
        exact Hj4
      · refine v_iload_n C dA_nodes_7 rfl 2 rfl ?_
        refine v_bind fun r5 hr5 => ?_
        refine v_callS0 (N := 1) (As := [.int p2]) (st := []) C (fun _ => trivial) (mA_isTree l h0 z0 p2 r5 hr5) rfl w_244 w_47 (by decide +kernel) ⟨Nat.le_of_ble_eq_true rfl, Nat.le_of_ble_eq_true rfl⟩ rfl rfl (Nat.le_of_ble_eq_true rfl) ⟨Nat.zero_le _, Nat.zero_le _⟩ w_242 w_243 dA_nodes_8 ?_
        refine v_if_eq (tgt := 26) C dA_nodes_11 (by decide) ?_ ?_
        · refine v_lv (lv' := []) [] rfl ?_
          exact Hj4
        · refine v_aload_n C dA_nodes_14 rfl 0 rfl ?_
          refine v_iload_n C dA_nodes_15 rfl 1 rfl ?_
          refine v_iload_n C dA_nodes_16 rfl 2 rfl ?_
          refine v_gd fun hO6 => ?_
          refine v_bind fun r7 hr7 => ?_
          refine v_callV0 (N := 2) (As := [.int p1, .int p2]) (st := []) C (fun _ => trivial) (mA_treeOf l h0 z0 a0 p1 p2 r7 hr7) rfl w_439 w_47 (by decide +kernel) ⟨Nat.le_of_ble_eq_true rfl, Nat.le_of_ble_eq_true rfl⟩ rfl rfl (Nat.le_of_ble_eq_true rfl) ⟨Nat.zero_le _, Nat.zero_le _⟩ w_436 w_438 w_18 v_cl4 rfl hO6 dA_nodes_17 ?_
          refine v_getIN C v_cl3 (by decide) in_3 rfl (nf_4 C.2.2.2.2.2.2.2.2.2) dA_nodes_20 (fun x8 => ?_)
          refine v_goto (tgt := 28) C dA_nodes_23 (by decide) ?_
          refine v_lv (lv' := []) [] rfl ?_
          exact Hj3 x8
theorem dT_isLeaf_0 : decode prog_5_method_29_code 0 = .ok (.aload_n 0, 1) := by decide +kernel
theorem dT_isLeaf_1 : decode prog_5_method_29_code 1 = .ok (.iload_n 1, 1) := by decide +kernel
theorem dT_isLeaf_2 : decode prog_5_method_29_code 2 = .ok (.iconst 0, 1) := by decide +kernel
theorem dT_isLeaf_3 : decode prog_5_method_29_code 3 = .ok (.invokevirtual 74, 3) := by decide +kernel
theorem dT_isLeaf_6 : decode prog_5_method_29_code 6 = .ok (.iconst (-1), 1) := by decide +kernel
theorem dT_isLeaf_7 : decode prog_5_method_29_code 7 = .ok (.if_icmp .ne 7, 3) := by decide +kernel
theorem dT_isLeaf_10 : decode prog_5_method_29_code 10 = .ok (.iconst 1, 1) := by decide +kernel
theorem dT_isLeaf_11 : decode prog_5_method_29_code 11 = .ok (.goto 4, 3) := by decide +kernel
theorem dT_isLeaf_14 : decode prog_5_method_29_code 14 = .ok (.iconst 0, 1) := by decide +kernel
theorem dT_isLeaf_15 : decode prog_5_method_29_code 15 = .ok (.ireturn, 1) := by decide +kernel
def FT_isLeaf (h0 : Hp) (a0 : Nat) (p1 : Int32) : Option Int32 :=
  gd (isO h0 a0 3 = true) ((FT_childOf h0 a0 p1 0).bind (fun r2 =>
  jn (fun (y3 : Int32) =>
  gd (y3 = 0 ∨ y3 = 1) (some y3))
  (fun (j4 : Int32 → Option Int32) =>
  if r2 = (-1) then
    (j4 1)
  else
    (j4 0))))
set_option maxRecDepth 100000 in
set_option maxHeartbeats 4000000 in
theorem mT_isLeaf (l : Launch) (h0 : Hp) (z0 : Nat) (a0 : Nat) (p1 : Int32) (r : Int32) (hr : FT_isLeaf h0 a0 p1 = some r) : vM True l yT_isLeaf (Cond.code yT_isLeaf prog_5_method_29_code 2 (some (.boolean)) :: gW) 2 [.ref a0, .int p1] h0 z0 h0 z0 (some (.int r)) 0 0 := by
  refine vM.of (by decide) rfl (Nat.le_of_ble_eq_true rfl) ?_
  intro p e s m args below meth c D dA C hin2
  refine (?_ : vO p l e (vR 2 0 0) s m args below meth c D dA (vA h0 z0) 2 True (fun r : Int32 => MQ below (vQc True h0 z0 D dA h0 z0 (some (.int r))) args s 0 0 (vAr True h0 z0)) 0 0 h0 z0 [(0, .ref a0), (1, .int p1)] 0 [] (FT_isLeaf h0 a0 p1)) r hr
  obtain ⟨Q, hQ⟩ : ∃ Q : Int32 → State → Prop, Q = (fun r : Int32 => MQ below (vQc True h0 z0 D dA h0 z0 (some (.int r))) args s 0 0 (vAr True h0 z0)) := ⟨_, rfl⟩
  rw [← hQ]
  unfold FT_isLeaf
  refine v_aload_n C dT_isLeaf_0 rfl 0 rfl ?_
  refine v_iload_n C dT_isLeaf_1 rfl 1 rfl ?_
  refine v_iconst (v := 0) C dT_isLeaf_2 (by decide) ?_
  refine v_gd fun hO1 => ?_
  refine v_bind fun r2 hr2 => ?_
  refine v_callV0 (N := 2) (As := [.int p1, .int 0]) (st := []) C (fun _ => trivial) (mT_childOf l h0 z0 a0 p1 0 r2 hr2) rfl w_298 w_52 (by decide +kernel) ⟨Nat.le_of_ble_eq_true rfl, Nat.le_of_ble_eq_true rfl⟩ rfl rfl (Nat.le_of_ble_eq_true rfl) ⟨Nat.zero_le _, Nat.zero_le _⟩ w_295 w_296 w_297 v_cl3 rfl hO1 dT_isLeaf_3 ?_
  refine v_iconst (v := (-1)) C dT_isLeaf_6 (by decide) ?_
  refine v_jn (fun (j : Int32 → Option Int32) => ∀ (y3 : Int32), vO p l e (vR 2 0 0) s m args below meth c D dA (vA h0 z0) 2 True Q 0 0 h0 z0 [] 15 [.int y3] (j y3)) ?_ (fun j4 Hj4 => ?_)
  · intro y3
    exact v_zret C dT_isLeaf_15 (by rw [hQ])
  · refine v_icmp_ne (tgt := 14) C dT_isLeaf_7 (by decide) ?_ ?_
    · refine v_iconst (v := 0) C dT_isLeaf_14 (by decide) ?_
      refine v_lv (lv' := []) [] rfl ?_
      exact Hj4 0
    · refine v_iconst (v := 1) C dT_isLeaf_10 (by decide) ?_
      refine v_goto (tgt := 15) C dT_isLeaf_11 (by decide) ?_
      refine v_lv (lv' := []) [] rfl ?_
      exact Hj4 1
theorem dT_areChildrenWell_0 : decode prog_5_method_27_code 0 = .ok (.aload_n 0, 1) := by decide +kernel
theorem dT_areChildrenWell_1 : decode prog_5_method_27_code 1 = .ok (.iload_n 1, 1) := by decide +kernel
theorem dT_areChildrenWell_2 : decode prog_5_method_27_code 2 = .ok (.invokevirtual 148, 3) := by decide +kernel
theorem dT_areChildrenWell_5 : decode prog_5_method_27_code 5 = .ok (.ifCond .ne 31, 3) := by decide +kernel
theorem dT_areChildrenWell_8 : decode prog_5_method_27_code 8 = .ok (.aload_n 0, 1) := by decide +kernel
theorem dT_areChildrenWell_9 : decode prog_5_method_27_code 9 = .ok (.aload_n 0, 1) := by decide +kernel
theorem dT_areChildrenWell_10 : decode prog_5_method_27_code 10 = .ok (.iload_n 1, 1) := by decide +kernel
theorem dT_areChildrenWell_11 : decode prog_5_method_27_code 11 = .ok (.iconst 0, 1) := by decide +kernel
theorem dT_areChildrenWell_12 : decode prog_5_method_27_code 12 = .ok (.invokevirtual 74, 3) := by decide +kernel
theorem dT_areChildrenWell_15 : decode prog_5_method_27_code 15 = .ok (.invokevirtual 71, 3) := by decide +kernel
theorem dT_areChildrenWell_18 : decode prog_5_method_27_code 18 = .ok (.iload_n 1, 1) := by decide +kernel
theorem dT_areChildrenWell_19 : decode prog_5_method_27_code 19 = .ok (.if_icmp .ne 21, 3) := by decide +kernel
theorem dT_areChildrenWell_22 : decode prog_5_method_27_code 22 = .ok (.aload_n 0, 1) := by decide +kernel
theorem dT_areChildrenWell_23 : decode prog_5_method_27_code 23 = .ok (.aload_n 0, 1) := by decide +kernel
theorem dT_areChildrenWell_24 : decode prog_5_method_27_code 24 = .ok (.iload_n 1, 1) := by decide +kernel
theorem dT_areChildrenWell_25 : decode prog_5_method_27_code 25 = .ok (.iconst 1, 1) := by decide +kernel
theorem dT_areChildrenWell_26 : decode prog_5_method_27_code 26 = .ok (.invokevirtual 74, 3) := by decide +kernel
theorem dT_areChildrenWell_29 : decode prog_5_method_27_code 29 = .ok (.invokevirtual 71, 3) := by decide +kernel
theorem dT_areChildrenWell_32 : decode prog_5_method_27_code 32 = .ok (.iload_n 1, 1) := by decide +kernel
theorem dT_areChildrenWell_33 : decode prog_5_method_27_code 33 = .ok (.if_icmp .ne 7, 3) := by decide +kernel
theorem dT_areChildrenWell_36 : decode prog_5_method_27_code 36 = .ok (.iconst 1, 1) := by decide +kernel
theorem dT_areChildrenWell_37 : decode prog_5_method_27_code 37 = .ok (.goto 4, 3) := by decide +kernel
theorem dT_areChildrenWell_40 : decode prog_5_method_27_code 40 = .ok (.iconst 0, 1) := by decide +kernel
theorem dT_areChildrenWell_41 : decode prog_5_method_27_code 41 = .ok (.ireturn, 1) := by decide +kernel
def FT_areChildrenWell (h0 : Hp) (a0 : Nat) (p1 : Int32) : Option Int32 :=
  gd (isO h0 a0 3 = true) ((FT_isLeaf h0 a0 p1).bind (fun r2 =>
  jn (fun (y3 : Int32) =>
  gd (y3 = 0 ∨ y3 = 1) (some y3))
  (fun (j4 : Int32 → Option Int32) =>
  jn (j4 1)
  (fun (j5 : Option Int32) =>
  if r2 = 0 then
    (gd (isO h0 a0 3 = true) ((FT_childOf h0 a0 p1 0).bind (fun r7 =>
    gd (isO h0 a0 3 = true) ((FT_parentOf h0 a0 r7).bind (fun r9 =>
    jn (j4 0)
    (fun (j10 : Option Int32) =>
    if r9 = p1 then
      (gd (isO h0 a0 3 = true) ((FT_childOf h0 a0 p1 1).bind (fun r12 =>
      gd (isO h0 a0 3 = true) ((FT_parentOf h0 a0 r12).bind (fun r14 =>
      if r14 = p1 then
        (j5)
      else
        (j10))))))
    else
      (j10)))))))
  else
    (j5)))))
set_option maxRecDepth 100000 in
set_option maxHeartbeats 4000000 in
theorem mT_areChildrenWell (l : Launch) (h0 : Hp) (z0 : Nat) (a0 : Nat) (p1 : Int32) (r : Int32) (hr : FT_areChildrenWell h0 a0 p1 = some r) : vM True l yT_areChildrenWell (Cond.code yT_areChildrenWell prog_5_method_27_code 2 (some (.boolean)) :: gW) 3 [.ref a0, .int p1] h0 z0 h0 z0 (some (.int r)) 0 0 := by
  refine vM.of (by decide) rfl (Nat.le_of_ble_eq_true rfl) ?_
  intro p e s m args below meth c D dA C hin2
  refine (?_ : vO p l e (vR 3 0 0) s m args below meth c D dA (vA h0 z0) 2 True (fun r : Int32 => MQ below (vQc True h0 z0 D dA h0 z0 (some (.int r))) args s 0 0 (vAr True h0 z0)) 0 0 h0 z0 [(0, .ref a0), (1, .int p1)] 0 [] (FT_areChildrenWell h0 a0 p1)) r hr
  obtain ⟨Q, hQ⟩ : ∃ Q : Int32 → State → Prop, Q = (fun r : Int32 => MQ below (vQc True h0 z0 D dA h0 z0 (some (.int r))) args s 0 0 (vAr True h0 z0)) := ⟨_, rfl⟩
  rw [← hQ]
  unfold FT_areChildrenWell
  refine v_aload_n C dT_areChildrenWell_0 rfl 0 rfl ?_
  refine v_iload_n C dT_areChildrenWell_1 rfl 1 rfl ?_
  refine v_gd fun hO1 => ?_
  refine v_bind fun r2 hr2 => ?_
  refine v_callV0 (N := 1) (As := [.int p1]) (st := []) C (fun _ => trivial) (mT_isLeaf l h0 z0 a0 p1 r2 hr2) rfl w_482 w_52 (by decide +kernel) ⟨Nat.le_of_ble_eq_true rfl, Nat.le_of_ble_eq_true rfl⟩ rfl rfl (Nat.le_of_ble_eq_true rfl) ⟨Nat.zero_le _, Nat.zero_le _⟩ w_479 w_481 w_20 v_cl3 rfl hO1 dT_areChildrenWell_2 ?_
  refine v_jn (fun (j : Int32 → Option Int32) => ∀ (y3 : Int32), vO p l e (vR 3 0 0) s m args below meth c D dA (vA h0 z0) 2 True Q 0 0 h0 z0 [] 41 [.int y3] (j y3)) ?_ (fun j4 Hj4 => ?_)
  · intro y3
    exact v_zret C dT_areChildrenWell_41 (by rw [hQ])
  · refine v_jn (fun (j : Option Int32) => vO p l e (vR 3 0 0) s m args below meth c D dA (vA h0 z0) 2 True Q 0 0 h0 z0 [] 36 [] j) ?_ (fun j5 Hj5 => ?_)
    · refine v_iconst (v := 1) C dT_areChildrenWell_36 (by decide) ?_
      refine v_goto (tgt := 41) C dT_areChildrenWell_37 (by decide) ?_
      exact Hj4 1
    · refine v_if_ne (tgt := 36) C dT_areChildrenWell_5 (by decide) ?_ ?_
      · refine v_lv (lv' := []) [] rfl ?_
        exact Hj5
      · refine v_aload_n C dT_areChildrenWell_8 rfl 0 rfl ?_
        refine v_aload_n C dT_areChildrenWell_9 rfl 0 rfl ?_
        refine v_iload_n C dT_areChildrenWell_10 rfl 1 rfl ?_
        refine v_iconst (v := 0) C dT_areChildrenWell_11 (by decide) ?_
        refine v_gd fun hO6 => ?_
        refine v_bind fun r7 hr7 => ?_
        refine v_callV0 (N := 2) (As := [.int p1, .int 0]) (st := [.ref a0]) C (fun _ => trivial) (mT_childOf l h0 z0 a0 p1 0 r7 hr7) rfl w_298 w_52 (by decide +kernel) ⟨Nat.le_of_ble_eq_true rfl, Nat.le_of_ble_eq_true rfl⟩ rfl rfl (Nat.le_of_ble_eq_true rfl) ⟨Nat.zero_le _, Nat.zero_le _⟩ w_295 w_296 w_297 v_cl3 rfl hO6 dT_areChildrenWell_12 ?_
        refine v_gd fun hO8 => ?_
        refine v_bind fun r9 hr9 => ?_
        refine v_callV0 (N := 1) (As := [.int r7]) (st := []) C (fun _ => trivial) (mT_parentOf l h0 z0 a0 r7 r9 hr9) rfl w_294 w_52 (by decide +kernel) ⟨Nat.le_of_ble_eq_true rfl, Nat.le_of_ble_eq_true rfl⟩ rfl rfl (Nat.le_of_ble_eq_true rfl) ⟨Nat.zero_le _, Nat.zero_le _⟩ w_291 w_292 w_293 v_cl3 rfl hO8 dT_areChildrenWell_15 ?_
        refine v_iload_n C dT_areChildrenWell_18 rfl 1 rfl ?_
        refine v_jn (fun (j : Option Int32) => vO p l e (vR 3 0 0) s m args below meth c D dA (vA h0 z0) 2 True Q 0 0 h0 z0 [] 40 [] j) ?_ (fun j10 Hj10 => ?_)
        · refine v_iconst (v := 0) C dT_areChildrenWell_40 (by decide) ?_
          exact Hj4 0
        · refine v_icmp_ne (tgt := 40) C dT_areChildrenWell_19 (by decide) ?_ ?_
          · refine v_lv (lv' := []) [] rfl ?_
            exact Hj10
          · refine v_aload_n C dT_areChildrenWell_22 rfl 0 rfl ?_
            refine v_aload_n C dT_areChildrenWell_23 rfl 0 rfl ?_
            refine v_iload_n C dT_areChildrenWell_24 rfl 1 rfl ?_
            refine v_iconst (v := 1) C dT_areChildrenWell_25 (by decide) ?_
            refine v_gd fun hO11 => ?_
            refine v_bind fun r12 hr12 => ?_
            refine v_callV0 (N := 2) (As := [.int p1, .int 1]) (st := [.ref a0]) C (fun _ => trivial) (mT_childOf l h0 z0 a0 p1 1 r12 hr12) rfl w_298 w_52 (by decide +kernel) ⟨Nat.le_of_ble_eq_true rfl, Nat.le_of_ble_eq_true rfl⟩ rfl rfl (Nat.le_of_ble_eq_true rfl) ⟨Nat.zero_le _, Nat.zero_le _⟩ w_295 w_296 w_297 v_cl3 rfl hO11 dT_areChildrenWell_26 ?_
            refine v_gd fun hO13 => ?_
            refine v_bind fun r14 hr14 => ?_
            refine v_callV0 (N := 1) (As := [.int r12]) (st := []) C (fun _ => trivial) (mT_parentOf l h0 z0 a0 r12 r14 hr14) rfl w_294 w_52 (by decide +kernel) ⟨Nat.le_of_ble_eq_true rfl, Nat.le_of_ble_eq_true rfl⟩ rfl rfl (Nat.le_of_ble_eq_true rfl) ⟨Nat.zero_le _, Nat.zero_le _⟩ w_291 w_292 w_293 v_cl3 rfl hO13 dT_areChildrenWell_29 ?_
            refine v_iload_n C dT_areChildrenWell_32 rfl 1 rfl ?_
            refine v_icmp_ne (tgt := 40) C dT_areChildrenWell_33 (by decide) ?_ ?_
            · refine v_lv (lv' := []) [] rfl ?_
              exact Hj10
            · refine v_lv (lv' := []) [] rfl ?_
              exact Hj5
theorem dT_isOnlyLeafOfItsSign_0 : decode prog_5_method_26_code 0 = .ok (.aload_n 0, 1) := by decide +kernel
theorem dT_isOnlyLeafOfItsSign_1 : decode prog_5_method_26_code 1 = .ok (.iload_n 1, 1) := by decide +kernel
theorem dT_isOnlyLeafOfItsSign_2 : decode prog_5_method_26_code 2 = .ok (.invokevirtual 124, 3) := by decide +kernel
theorem dT_isOnlyLeafOfItsSign_5 : decode prog_5_method_26_code 5 = .ok (.ifCond .lt 16, 3) := by decide +kernel
theorem dT_isOnlyLeafOfItsSign_8 : decode prog_5_method_26_code 8 = .ok (.aload_n 0, 1) := by decide +kernel
theorem dT_isOnlyLeafOfItsSign_9 : decode prog_5_method_26_code 9 = .ok (.aload_n 0, 1) := by decide +kernel
theorem dT_isOnlyLeafOfItsSign_10 : decode prog_5_method_26_code 10 = .ok (.iload_n 1, 1) := by decide +kernel
theorem dT_isOnlyLeafOfItsSign_11 : decode prog_5_method_26_code 11 = .ok (.invokevirtual 124, 3) := by decide +kernel
theorem dT_isOnlyLeafOfItsSign_14 : decode prog_5_method_26_code 14 = .ok (.invokevirtual 68, 3) := by decide +kernel
theorem dT_isOnlyLeafOfItsSign_17 : decode prog_5_method_26_code 17 = .ok (.iload_n 1, 1) := by decide +kernel
theorem dT_isOnlyLeafOfItsSign_18 : decode prog_5_method_26_code 18 = .ok (.if_icmp .ne 7, 3) := by decide +kernel
theorem dT_isOnlyLeafOfItsSign_21 : decode prog_5_method_26_code 21 = .ok (.iconst 1, 1) := by decide +kernel
theorem dT_isOnlyLeafOfItsSign_22 : decode prog_5_method_26_code 22 = .ok (.goto 4, 3) := by decide +kernel
theorem dT_isOnlyLeafOfItsSign_25 : decode prog_5_method_26_code 25 = .ok (.iconst 0, 1) := by decide +kernel
theorem dT_isOnlyLeafOfItsSign_26 : decode prog_5_method_26_code 26 = .ok (.ireturn, 1) := by decide +kernel
def FT_isOnlyLeafOfItsSign (h0 : Hp) (a0 : Nat) (p1 : Int32) : Option Int32 :=
  gd (isO h0 a0 3 = true) ((FT_signAt h0 a0 p1).bind (fun r2 =>
  jn (fun (y3 : Int32) =>
  gd (y3 = 0 ∨ y3 = 1) (some y3))
  (fun (j4 : Int32 → Option Int32) =>
  jn (j4 1)
  (fun (j5 : Option Int32) =>
  if r2 < 0 then
    (j5)
  else
    (gd (isO h0 a0 3 = true) ((FT_signAt h0 a0 p1).bind (fun r7 =>
    gd (isO h0 a0 3 = true) ((FT_leafOf h0 a0 r7).bind (fun r9 =>
    if r9 = p1 then
      (j5)
    else
      (j4 0))))))))))
set_option maxRecDepth 100000 in
set_option maxHeartbeats 4000000 in
theorem mT_isOnlyLeafOfItsSign (l : Launch) (h0 : Hp) (z0 : Nat) (a0 : Nat) (p1 : Int32) (r : Int32) (hr : FT_isOnlyLeafOfItsSign h0 a0 p1 = some r) : vM True l yT_isOnlyLeafOfItsSign (Cond.code yT_isOnlyLeafOfItsSign prog_5_method_26_code 2 (some (.boolean)) :: gW) 2 [.ref a0, .int p1] h0 z0 h0 z0 (some (.int r)) 0 0 := by
  refine vM.of (by decide) rfl (Nat.le_of_ble_eq_true rfl) ?_
  intro p e s m args below meth c D dA C hin2
  refine (?_ : vO p l e (vR 2 0 0) s m args below meth c D dA (vA h0 z0) 2 True (fun r : Int32 => MQ below (vQc True h0 z0 D dA h0 z0 (some (.int r))) args s 0 0 (vAr True h0 z0)) 0 0 h0 z0 [(0, .ref a0), (1, .int p1)] 0 [] (FT_isOnlyLeafOfItsSign h0 a0 p1)) r hr
  obtain ⟨Q, hQ⟩ : ∃ Q : Int32 → State → Prop, Q = (fun r : Int32 => MQ below (vQc True h0 z0 D dA h0 z0 (some (.int r))) args s 0 0 (vAr True h0 z0)) := ⟨_, rfl⟩
  rw [← hQ]
  unfold FT_isOnlyLeafOfItsSign
  refine v_aload_n C dT_isOnlyLeafOfItsSign_0 rfl 0 rfl ?_
  refine v_iload_n C dT_isOnlyLeafOfItsSign_1 rfl 1 rfl ?_
  refine v_gd fun hO1 => ?_
  refine v_bind fun r2 hr2 => ?_
  refine v_callV0 (N := 1) (As := [.int p1]) (st := []) C (fun _ => trivial) (mT_signAt l h0 z0 a0 p1 r2 hr2) rfl w_360 w_52 (by decide +kernel) ⟨Nat.le_of_ble_eq_true rfl, Nat.le_of_ble_eq_true rfl⟩ rfl rfl (Nat.le_of_ble_eq_true rfl) ⟨Nat.zero_le _, Nat.zero_le _⟩ w_357 w_358 w_359 v_cl3 rfl hO1 dT_isOnlyLeafOfItsSign_2 ?_
  refine v_jn (fun (j : Int32 → Option Int32) => ∀ (y3 : Int32), vO p l e (vR 2 0 0) s m args below meth c D dA (vA h0 z0) 2 True Q 0 0 h0 z0 [] 26 [.int y3] (j y3)) ?_ (fun j4 Hj4 => ?_)
  · intro y3
    exact v_zret C dT_isOnlyLeafOfItsSign_26 (by rw [hQ])
  · refine v_jn (fun (j : Option Int32) => vO p l e (vR 2 0 0) s m args below meth c D dA (vA h0 z0) 2 True Q 0 0 h0 z0 [] 21 [] j) ?_ (fun j5 Hj5 => ?_)
    · refine v_iconst (v := 1) C dT_isOnlyLeafOfItsSign_21 (by decide) ?_
      refine v_goto (tgt := 26) C dT_isOnlyLeafOfItsSign_22 (by decide) ?_
      exact Hj4 1
    · refine v_if_lt (tgt := 21) C dT_isOnlyLeafOfItsSign_5 (by decide) ?_ ?_
      · refine v_lv (lv' := []) [] rfl ?_
        exact Hj5
      · refine v_aload_n C dT_isOnlyLeafOfItsSign_8 rfl 0 rfl ?_
        refine v_aload_n C dT_isOnlyLeafOfItsSign_9 rfl 0 rfl ?_
        refine v_iload_n C dT_isOnlyLeafOfItsSign_10 rfl 1 rfl ?_
        refine v_gd fun hO6 => ?_
        refine v_bind fun r7 hr7 => ?_
        refine v_callV0 (N := 1) (As := [.int p1]) (st := [.ref a0]) C (fun _ => trivial) (mT_signAt l h0 z0 a0 p1 r7 hr7) rfl w_360 w_52 (by decide +kernel) ⟨Nat.le_of_ble_eq_true rfl, Nat.le_of_ble_eq_true rfl⟩ rfl rfl (Nat.le_of_ble_eq_true rfl) ⟨Nat.zero_le _, Nat.zero_le _⟩ w_357 w_358 w_359 v_cl3 rfl hO6 dT_isOnlyLeafOfItsSign_11 ?_
        refine v_gd fun hO8 => ?_
        refine v_bind fun r9 hr9 => ?_
        refine v_callV0 (N := 1) (As := [.int r7]) (st := []) C (fun _ => trivial) (mT_leafOf l h0 z0 a0 r7 r9 hr9) rfl w_285 w_52 (by decide +kernel) ⟨Nat.le_of_ble_eq_true rfl, Nat.le_of_ble_eq_true rfl⟩ rfl rfl (Nat.le_of_ble_eq_true rfl) ⟨Nat.zero_le _, Nat.zero_le _⟩ w_282 w_283 w_284 v_cl3 rfl hO8 dT_isOnlyLeafOfItsSign_14 ?_
        refine v_iload_n C dT_isOnlyLeafOfItsSign_17 rfl 1 rfl ?_
        refine v_icmp_ne (tgt := 25) C dT_isOnlyLeafOfItsSign_18 (by decide) ?_ ?_
        · refine v_iconst (v := 0) C dT_isOnlyLeafOfItsSign_25 (by decide) ?_
          refine v_lv (lv' := []) [] rfl ?_
          exact Hj4 0
        · refine v_lv (lv' := []) [] rfl ?_
          exact Hj5
theorem dT_isCountWell_0 : decode prog_5_method_28_code 0 = .ok (.iload_n 1, 1) := by decide +kernel
theorem dT_isCountWell_1 : decode prog_5_method_28_code 1 = .ok (.ifCond .le 20, 3) := by decide +kernel
theorem dT_isCountWell_4 : decode prog_5_method_28_code 4 = .ok (.aload_n 0, 1) := by decide +kernel
theorem dT_isCountWell_5 : decode prog_5_method_28_code 5 = .ok (.iload_n 1, 1) := by decide +kernel
theorem dT_isCountWell_6 : decode prog_5_method_28_code 6 = .ok (.invokevirtual 99, 3) := by decide +kernel
theorem dT_isCountWell_9 : decode prog_5_method_28_code 9 = .ok (.aload_n 0, 1) := by decide +kernel
theorem dT_isCountWell_10 : decode prog_5_method_28_code 10 = .ok (.iload_n 1, 1) := by decide +kernel
theorem dT_isCountWell_11 : decode prog_5_method_28_code 11 = .ok (.iconst 1, 1) := by decide +kernel
theorem dT_isCountWell_12 : decode prog_5_method_28_code 12 = .ok (.isub, 1) := by decide +kernel
theorem dT_isCountWell_13 : decode prog_5_method_28_code 13 = .ok (.invokevirtual 99, 3) := by decide +kernel
theorem dT_isCountWell_16 : decode prog_5_method_28_code 16 = .ok (.if_icmp .le 5, 3) := by decide +kernel
theorem dT_isCountWell_19 : decode prog_5_method_28_code 19 = .ok (.iconst 0, 1) := by decide +kernel
theorem dT_isCountWell_20 : decode prog_5_method_28_code 20 = .ok (.ireturn, 1) := by decide +kernel
theorem dT_isCountWell_21 : decode prog_5_method_28_code 21 = .ok (.aload_n 0, 1) := by decide +kernel
theorem dT_isCountWell_22 : decode prog_5_method_28_code 22 = .ok (.iload_n 1, 1) := by decide +kernel
theorem dT_isCountWell_23 : decode prog_5_method_28_code 23 = .ok (.invokevirtual 148, 3) := by decide +kernel
theorem dT_isCountWell_26 : decode prog_5_method_28_code 26 = .ok (.ifCond .ne 32, 3) := by decide +kernel
theorem dT_isCountWell_29 : decode prog_5_method_28_code 29 = .ok (.aload_n 0, 1) := by decide +kernel
theorem dT_isCountWell_30 : decode prog_5_method_28_code 30 = .ok (.iload_n 1, 1) := by decide +kernel
theorem dT_isCountWell_31 : decode prog_5_method_28_code 31 = .ok (.invokevirtual 99, 3) := by decide +kernel
theorem dT_isCountWell_34 : decode prog_5_method_28_code 34 = .ok (.aload_n 0, 1) := by decide +kernel
theorem dT_isCountWell_35 : decode prog_5_method_28_code 35 = .ok (.aload_n 0, 1) := by decide +kernel
theorem dT_isCountWell_36 : decode prog_5_method_28_code 36 = .ok (.iload_n 1, 1) := by decide +kernel
theorem dT_isCountWell_37 : decode prog_5_method_28_code 37 = .ok (.iconst 0, 1) := by decide +kernel
theorem dT_isCountWell_38 : decode prog_5_method_28_code 38 = .ok (.invokevirtual 74, 3) := by decide +kernel
theorem dT_isCountWell_41 : decode prog_5_method_28_code 41 = .ok (.invokevirtual 99, 3) := by decide +kernel
theorem dT_isCountWell_44 : decode prog_5_method_28_code 44 = .ok (.aload_n 0, 1) := by decide +kernel
theorem dT_isCountWell_45 : decode prog_5_method_28_code 45 = .ok (.aload_n 0, 1) := by decide +kernel
theorem dT_isCountWell_46 : decode prog_5_method_28_code 46 = .ok (.iload_n 1, 1) := by decide +kernel
theorem dT_isCountWell_47 : decode prog_5_method_28_code 47 = .ok (.iconst 1, 1) := by decide +kernel
theorem dT_isCountWell_48 : decode prog_5_method_28_code 48 = .ok (.invokevirtual 74, 3) := by decide +kernel
theorem dT_isCountWell_51 : decode prog_5_method_28_code 51 = .ok (.invokevirtual 99, 3) := by decide +kernel
theorem dT_isCountWell_54 : decode prog_5_method_28_code 54 = .ok (.iadd, 1) := by decide +kernel
theorem dT_isCountWell_55 : decode prog_5_method_28_code 55 = .ok (.if_icmp .ne 7, 3) := by decide +kernel
theorem dT_isCountWell_58 : decode prog_5_method_28_code 58 = .ok (.iconst 1, 1) := by decide +kernel
theorem dT_isCountWell_59 : decode prog_5_method_28_code 59 = .ok (.goto 4, 3) := by decide +kernel
theorem dT_isCountWell_62 : decode prog_5_method_28_code 62 = .ok (.iconst 0, 1) := by decide +kernel
theorem dT_isCountWell_63 : decode prog_5_method_28_code 63 = .ok (.ireturn, 1) := by decide +kernel
def FT_isCountWell (h0 : Hp) (a0 : Nat) (p1 : Int32) : Option Int32 :=
  jn (gd (isO h0 a0 3 = true) ((FT_isLeaf h0 a0 p1).bind (fun r3 =>
  jn (fun (y4 : Int32) =>
  gd (y4 = 0 ∨ y4 = 1) (some y4))
  (fun (j5 : Int32 → Option Int32) =>
  jn (j5 1)
  (fun (j6 : Option Int32) =>
  if r3 = 0 then
    (gd (isO h0 a0 3 = true) ((FT_countAt h0 a0 p1).bind (fun r8 =>
    gd (isO h0 a0 3 = true) ((FT_childOf h0 a0 p1 0).bind (fun r10 =>
    gd (isO h0 a0 3 = true) ((FT_countAt h0 a0 r10).bind (fun r12 =>
    gd (isO h0 a0 3 = true) ((FT_childOf h0 a0 p1 1).bind (fun r14 =>
    gd (isO h0 a0 3 = true) ((FT_countAt h0 a0 r14).bind (fun r16 =>
    if r8 = (r12 + r16) then
      (j6)
    else
      (j5 0))))))))))))
  else
    (j6))))))
  (fun (j1 : Option Int32) =>
  if p1 ≤ 0 then
    (j1)
  else
    (gd (isO h0 a0 3 = true) ((FT_countAt h0 a0 p1).bind (fun r18 =>
    gd (isO h0 a0 3 = true) ((FT_countAt h0 a0 (p1 - 1)).bind (fun r20 =>
    if r18 ≤ r20 then
      (j1)
    else
      (gd (0 = 0 ∨ 0 = 1) (some 0))))))))
set_option maxRecDepth 100000 in
set_option maxHeartbeats 4000000 in
theorem mT_isCountWell (l : Launch) (h0 : Hp) (z0 : Nat) (a0 : Nat) (p1 : Int32) (r : Int32) (hr : FT_isCountWell h0 a0 p1 = some r) : vM True l yT_isCountWell (Cond.code yT_isCountWell prog_5_method_28_code 2 (some (.boolean)) :: gW) 3 [.ref a0, .int p1] h0 z0 h0 z0 (some (.int r)) 0 0 := by
  refine vM.of (by decide) rfl (Nat.le_of_ble_eq_true rfl) ?_
  intro p e s m args below meth c D dA C hin2
  refine (?_ : vO p l e (vR 3 0 0) s m args below meth c D dA (vA h0 z0) 2 True (fun r : Int32 => MQ below (vQc True h0 z0 D dA h0 z0 (some (.int r))) args s 0 0 (vAr True h0 z0)) 0 0 h0 z0 [(0, .ref a0), (1, .int p1)] 0 [] (FT_isCountWell h0 a0 p1)) r hr
  obtain ⟨Q, hQ⟩ : ∃ Q : Int32 → State → Prop, Q = (fun r : Int32 => MQ below (vQc True h0 z0 D dA h0 z0 (some (.int r))) args s 0 0 (vAr True h0 z0)) := ⟨_, rfl⟩
  rw [← hQ]
  unfold FT_isCountWell
  refine v_iload_n C dT_isCountWell_0 rfl 1 rfl ?_
  refine v_jn (fun (j : Option Int32) => vO p l e (vR 3 0 0) s m args below meth c D dA (vA h0 z0) 2 True Q 0 0 h0 z0 [(0, .ref a0), (1, .int p1)] 21 [] j) ?_ (fun j1 Hj1 => ?_)
  · refine v_aload_n C dT_isCountWell_21 rfl 0 rfl ?_
    refine v_iload_n C dT_isCountWell_22 rfl 1 rfl ?_
    refine v_gd fun hO2 => ?_
    refine v_bind fun r3 hr3 => ?_
    refine v_callV0 (N := 1) (As := [.int p1]) (st := []) C (fun _ => trivial) (mT_isLeaf l h0 z0 a0 p1 r3 hr3) rfl w_482 w_52 (by decide +kernel) ⟨Nat.le_of_ble_eq_true rfl, Nat.le_of_ble_eq_true rfl⟩ rfl rfl (Nat.le_of_ble_eq_true rfl) ⟨Nat.zero_le _, Nat.zero_le _⟩ w_479 w_481 w_20 v_cl3 rfl hO2 dT_isCountWell_23 ?_
    refine v_jn (fun (j : Int32 → Option Int32) => ∀ (y4 : Int32), vO p l e (vR 3 0 0) s m args below meth c D dA (vA h0 z0) 2 True Q 0 0 h0 z0 [] 63 [.int y4] (j y4)) ?_ (fun j5 Hj5 => ?_)
    · intro y4
      exact v_zret C dT_isCountWell_63 (by rw [hQ])
    · refine v_jn (fun (j : Option Int32) => vO p l e (vR 3 0 0) s m args below meth c D dA (vA h0 z0) 2 True Q 0 0 h0 z0 [] 58 [] j) ?_ (fun j6 Hj6 => ?_)
      · refine v_iconst (v := 1) C dT_isCountWell_58 (by decide) ?_
        refine v_goto (tgt := 63) C dT_isCountWell_59 (by decide) ?_
        exact Hj5 1
      · refine v_if_ne (tgt := 58) C dT_isCountWell_26 (by decide) ?_ ?_
        · refine v_lv (lv' := []) [] rfl ?_
          exact Hj6
        · refine v_aload_n C dT_isCountWell_29 rfl 0 rfl ?_
          refine v_iload_n C dT_isCountWell_30 rfl 1 rfl ?_
          refine v_gd fun hO7 => ?_
          refine v_bind fun r8 hr8 => ?_
          refine v_callV0 (N := 1) (As := [.int p1]) (st := []) C (fun _ => trivial) (mT_countAt l h0 z0 a0 p1 r8 hr8) rfl w_344 w_52 (by decide +kernel) ⟨Nat.le_of_ble_eq_true rfl, Nat.le_of_ble_eq_true rfl⟩ rfl rfl (Nat.le_of_ble_eq_true rfl) ⟨Nat.zero_le _, Nat.zero_le _⟩ w_341 w_342 w_343 v_cl3 rfl hO7 dT_isCountWell_31 ?_
          refine v_aload_n C dT_isCountWell_34 rfl 0 rfl ?_
          refine v_aload_n C dT_isCountWell_35 rfl 0 rfl ?_
          refine v_iload_n C dT_isCountWell_36 rfl 1 rfl ?_
          refine v_iconst (v := 0) C dT_isCountWell_37 (by decide) ?_
          refine v_gd fun hO9 => ?_
          refine v_bind fun r10 hr10 => ?_
          refine v_callV0 (N := 2) (As := [.int p1, .int 0]) (st := [.ref a0, .int r8]) C (fun _ => trivial) (mT_childOf l h0 z0 a0 p1 0 r10 hr10) rfl w_298 w_52 (by decide +kernel) ⟨Nat.le_of_ble_eq_true rfl, Nat.le_of_ble_eq_true rfl⟩ rfl rfl (Nat.le_of_ble_eq_true rfl) ⟨Nat.zero_le _, Nat.zero_le _⟩ w_295 w_296 w_297 v_cl3 rfl hO9 dT_isCountWell_38 ?_
          refine v_gd fun hO11 => ?_
          refine v_bind fun r12 hr12 => ?_
          refine v_callV0 (N := 1) (As := [.int r10]) (st := [.int r8]) C (fun _ => trivial) (mT_countAt l h0 z0 a0 r10 r12 hr12) rfl w_344 w_52 (by decide +kernel) ⟨Nat.le_of_ble_eq_true rfl, Nat.le_of_ble_eq_true rfl⟩ rfl rfl (Nat.le_of_ble_eq_true rfl) ⟨Nat.zero_le _, Nat.zero_le _⟩ w_341 w_342 w_343 v_cl3 rfl hO11 dT_isCountWell_41 ?_
          refine v_aload_n C dT_isCountWell_44 rfl 0 rfl ?_
          refine v_aload_n C dT_isCountWell_45 rfl 0 rfl ?_
          refine v_iload_n C dT_isCountWell_46 rfl 1 rfl ?_
          refine v_iconst (v := 1) C dT_isCountWell_47 (by decide) ?_
          refine v_gd fun hO13 => ?_
          refine v_bind fun r14 hr14 => ?_
          refine v_callV0 (N := 2) (As := [.int p1, .int 1]) (st := [.ref a0, .int r12, .int r8]) C (fun _ => trivial) (mT_childOf l h0 z0 a0 p1 1 r14 hr14) rfl w_298 w_52 (by decide +kernel) ⟨Nat.le_of_ble_eq_true rfl, Nat.le_of_ble_eq_true rfl⟩ rfl rfl (Nat.le_of_ble_eq_true rfl) ⟨Nat.zero_le _, Nat.zero_le _⟩ w_295 w_296 w_297 v_cl3 rfl hO13 dT_isCountWell_48 ?_
          refine v_gd fun hO15 => ?_
          refine v_bind fun r16 hr16 => ?_
          refine v_callV0 (N := 1) (As := [.int r14]) (st := [.int r12, .int r8]) C (fun _ => trivial) (mT_countAt l h0 z0 a0 r14 r16 hr16) rfl w_344 w_52 (by decide +kernel) ⟨Nat.le_of_ble_eq_true rfl, Nat.le_of_ble_eq_true rfl⟩ rfl rfl (Nat.le_of_ble_eq_true rfl) ⟨Nat.zero_le _, Nat.zero_le _⟩ w_341 w_342 w_343 v_cl3 rfl hO15 dT_isCountWell_51 ?_
          refine v_iadd C dT_isCountWell_54 ?_
          refine v_icmp_ne (tgt := 62) C dT_isCountWell_55 (by decide) ?_ ?_
          · refine v_iconst (v := 0) C dT_isCountWell_62 (by decide) ?_
            refine v_lv (lv' := []) [] rfl ?_
            exact Hj5 0
          · refine v_lv (lv' := []) [] rfl ?_
            exact Hj6
  · refine v_if_le (tgt := 21) C dT_isCountWell_1 (by decide) ?_ ?_
    · exact Hj1
    · refine v_aload_n C dT_isCountWell_4 rfl 0 rfl ?_
      refine v_iload_n C dT_isCountWell_5 rfl 1 rfl ?_
      refine v_gd fun hO17 => ?_
      refine v_bind fun r18 hr18 => ?_
      refine v_callV0 (N := 1) (As := [.int p1]) (st := []) C (fun _ => trivial) (mT_countAt l h0 z0 a0 p1 r18 hr18) rfl w_344 w_52 (by decide +kernel) ⟨Nat.le_of_ble_eq_true rfl, Nat.le_of_ble_eq_true rfl⟩ rfl rfl (Nat.le_of_ble_eq_true rfl) ⟨Nat.zero_le _, Nat.zero_le _⟩ w_341 w_342 w_343 v_cl3 rfl hO17 dT_isCountWell_6 ?_
      refine v_aload_n C dT_isCountWell_9 rfl 0 rfl ?_
      refine v_iload_n C dT_isCountWell_10 rfl 1 rfl ?_
      refine v_iconst (v := 1) C dT_isCountWell_11 (by decide) ?_
      refine v_isub C dT_isCountWell_12 ?_
      refine v_gd fun hO19 => ?_
      refine v_bind fun r20 hr20 => ?_
      refine v_callV0 (N := 1) (As := [.int (p1 - 1)]) (st := [.int r18]) C (fun _ => trivial) (mT_countAt l h0 z0 a0 (p1 - 1) r20 hr20) rfl w_344 w_52 (by decide +kernel) ⟨Nat.le_of_ble_eq_true rfl, Nat.le_of_ble_eq_true rfl⟩ rfl rfl (Nat.le_of_ble_eq_true rfl) ⟨Nat.zero_le _, Nat.zero_le _⟩ w_341 w_342 w_343 v_cl3 rfl hO19 dT_isCountWell_13 ?_
      refine v_icmp_le (tgt := 21) C dT_isCountWell_16 (by decide) ?_ ?_
      · exact Hj1
      · refine v_iconst (v := 0) C dT_isCountWell_19 (by decide) ?_
        exact v_zret C dT_isCountWell_20 (by rw [hQ])
theorem dT_isWell_0 : decode prog_5_method_25_code 0 = .ok (.iconst 0, 1) := by decide +kernel
theorem dT_isWell_1 : decode prog_5_method_25_code 1 = .ok (.istore_n 1, 1) := by decide +kernel
theorem dT_isWell_2 : decode prog_5_method_25_code 2 = .ok (.iload_n 1, 1) := by decide +kernel
theorem dT_isWell_3 : decode prog_5_method_25_code 3 = .ok (.aload_n 0, 1) := by decide +kernel
theorem dT_isWell_4 : decode prog_5_method_25_code 4 = .ok (.getfield 15, 3) := by decide +kernel
theorem dT_isWell_7 : decode prog_5_method_25_code 7 = .ok (.if_icmp .ge 44, 3) := by decide +kernel
theorem dT_isWell_10 : decode prog_5_method_25_code 10 = .ok (.aload_n 0, 1) := by decide +kernel
theorem dT_isWell_11 : decode prog_5_method_25_code 11 = .ok (.iload_n 1, 1) := by decide +kernel
theorem dT_isWell_12 : decode prog_5_method_25_code 12 = .ok (.invokevirtual 139, 3) := by decide +kernel
theorem dT_isWell_15 : decode prog_5_method_25_code 15 = .ok (.ifCond .eq 11, 3) := by decide +kernel
theorem dT_isWell_18 : decode prog_5_method_25_code 18 = .ok (.aload_n 0, 1) := by decide +kernel
theorem dT_isWell_19 : decode prog_5_method_25_code 19 = .ok (.iload_n 1, 1) := by decide +kernel
theorem dT_isWell_20 : decode prog_5_method_25_code 20 = .ok (.invokevirtual 142, 3) := by decide +kernel
theorem dT_isWell_23 : decode prog_5_method_25_code 23 = .ok (.ifCond .ne 5, 3) := by decide +kernel
theorem dT_isWell_26 : decode prog_5_method_25_code 26 = .ok (.iconst 0, 1) := by decide +kernel
theorem dT_isWell_27 : decode prog_5_method_25_code 27 = .ok (.ireturn, 1) := by decide +kernel
theorem dT_isWell_28 : decode prog_5_method_25_code 28 = .ok (.aload_n 0, 1) := by decide +kernel
theorem dT_isWell_29 : decode prog_5_method_25_code 29 = .ok (.getfield 9, 3) := by decide +kernel
theorem dT_isWell_32 : decode prog_5_method_25_code 32 = .ok (.ifCond .ne 13, 3) := by decide +kernel
theorem dT_isWell_35 : decode prog_5_method_25_code 35 = .ok (.aload_n 0, 1) := by decide +kernel
theorem dT_isWell_36 : decode prog_5_method_25_code 36 = .ok (.iload_n 1, 1) := by decide +kernel
theorem dT_isWell_37 : decode prog_5_method_25_code 37 = .ok (.invokevirtual 145, 3) := by decide +kernel
theorem dT_isWell_40 : decode prog_5_method_25_code 40 = .ok (.ifCond .ne 5, 3) := by decide +kernel
theorem dT_isWell_43 : decode prog_5_method_25_code 43 = .ok (.iconst 0, 1) := by decide +kernel
theorem dT_isWell_44 : decode prog_5_method_25_code 44 = .ok (.ireturn, 1) := by decide +kernel
theorem dT_isWell_45 : decode prog_5_method_25_code 45 = .ok (.iinc 1 1, 3) := by decide +kernel
theorem dT_isWell_48 : decode prog_5_method_25_code 48 = .ok (.goto (-46), 3) := by decide +kernel
theorem dT_isWell_51 : decode prog_5_method_25_code 51 = .ok (.iconst 0, 1) := by decide +kernel
theorem dT_isWell_52 : decode prog_5_method_25_code 52 = .ok (.istore_n 1, 1) := by decide +kernel
theorem dT_isWell_53 : decode prog_5_method_25_code 53 = .ok (.iload_n 1, 1) := by decide +kernel
theorem dT_isWell_54 : decode prog_5_method_25_code 54 = .ok (.aload_n 0, 1) := by decide +kernel
theorem dT_isWell_55 : decode prog_5_method_25_code 55 = .ok (.getfield 24, 3) := by decide +kernel
theorem dT_isWell_58 : decode prog_5_method_25_code 58 = .ok (.if_icmp .ge 32, 3) := by decide +kernel
theorem dT_isWell_61 : decode prog_5_method_25_code 61 = .ok (.aload_n 0, 1) := by decide +kernel
theorem dT_isWell_62 : decode prog_5_method_25_code 62 = .ok (.iload_n 1, 1) := by decide +kernel
theorem dT_isWell_63 : decode prog_5_method_25_code 63 = .ok (.invokevirtual 90, 3) := by decide +kernel
theorem dT_isWell_66 : decode prog_5_method_25_code 66 = .ok (.ifCond .eq 18, 3) := by decide +kernel
theorem dT_isWell_69 : decode prog_5_method_25_code 69 = .ok (.aload_n 0, 1) := by decide +kernel
theorem dT_isWell_70 : decode prog_5_method_25_code 70 = .ok (.aload_n 0, 1) := by decide +kernel
theorem dT_isWell_71 : decode prog_5_method_25_code 71 = .ok (.iload_n 1, 1) := by decide +kernel
theorem dT_isWell_72 : decode prog_5_method_25_code 72 = .ok (.invokevirtual 68, 3) := by decide +kernel
theorem dT_isWell_75 : decode prog_5_method_25_code 75 = .ok (.invokevirtual 124, 3) := by decide +kernel
theorem dT_isWell_78 : decode prog_5_method_25_code 78 = .ok (.iload_n 1, 1) := by decide +kernel
theorem dT_isWell_79 : decode prog_5_method_25_code 79 = .ok (.if_icmp .eq 5, 3) := by decide +kernel
theorem dT_isWell_82 : decode prog_5_method_25_code 82 = .ok (.iconst 0, 1) := by decide +kernel
theorem dT_isWell_83 : decode prog_5_method_25_code 83 = .ok (.ireturn, 1) := by decide +kernel
theorem dT_isWell_84 : decode prog_5_method_25_code 84 = .ok (.iinc 1 1, 3) := by decide +kernel
theorem dT_isWell_87 : decode prog_5_method_25_code 87 = .ok (.goto (-34), 3) := by decide +kernel
theorem dT_isWell_90 : decode prog_5_method_25_code 90 = .ok (.iconst 1, 1) := by decide +kernel
theorem dT_isWell_91 : decode prog_5_method_25_code 91 = .ok (.ireturn, 1) := by decide +kernel
def LT_isWell_53 (h0 : Hp) (a0 : Nat) (K2 : Option Int32) (K3 : Option Int32) (rec5 : Int32 → Option Int32) (x4 : Int32) : Option Int32 :=
  gI h0 a0 3 0 (fun x6 =>
  if x6 ≤ x4 then
    (K2)
  else
    (gd (isO h0 a0 3 = true) ((FT_hasLeafOf h0 a0 x4).bind (fun r8 =>
    jn (rec5 (x4 + 1))
    (fun (j9 : Option Int32) =>
    if r8 = 0 then
      (j9)
    else
      (gd (isO h0 a0 3 = true) ((FT_leafOf h0 a0 x4).bind (fun r11 =>
      gd (isO h0 a0 3 = true) ((FT_signAt h0 a0 r11).bind (fun r13 =>
      if r13 = x4 then
        (j9)
      else
        (K3)))))))))))
def LT_isWell_2 (h0 : Hp) (a0 : Nat) (K1 : Option Int32) (K14 : Option Int32) (K15 : Option Int32) (rec17 : Int32 → Option Int32) (x16 : Int32) : Option Int32 :=
  gI h0 a0 3 9 (fun x18 =>
  if x18 ≤ x16 then
    (K1)
  else
    (gd (isO h0 a0 3 = true) ((FT_areChildrenWell h0 a0 x16).bind (fun r20 =>
    if r20 = 0 then
      (K15)
    else
      (gd (isO h0 a0 3 = true) ((FT_isOnlyLeafOfItsSign h0 a0 x16).bind (fun r22 =>
      if r22 = 0 then
        (K15)
      else
        (gI h0 a0 3 8 (fun x23 =>
        jn (rec17 (x16 + 1))
        (fun (j24 : Option Int32) =>
        if x23 = 0 then
          (gd (isO h0 a0 3 = true) ((FT_isCountWell h0 a0 x16).bind (fun r26 =>
          if r26 = 0 then
            (K14)
          else
            (j24))))
        else
          (j24)))))))))))
def FT_isWell (h0 : Hp) (a0 : Nat) : Option Int32 :=
  jn (jn (gd (1 = 0 ∨ 1 = 1) (some 1))
  (fun (K2 : Option Int32) =>
  jn (gd (0 = 0 ∨ 0 = 1) (some 0))
  (fun (K3 : Option Int32) =>
  lpG (fun _ => none) fu (LT_isWell_53 h0 a0 K2 K3) 0)))
  (fun (K1 : Option Int32) =>
  jn (gd (0 = 0 ∨ 0 = 1) (some 0))
  (fun (K14 : Option Int32) =>
  jn (gd (0 = 0 ∨ 0 = 1) (some 0))
  (fun (K15 : Option Int32) =>
  lpG (fun _ => none) fu (LT_isWell_2 h0 a0 K1 K14 K15) 0)))
set_option maxRecDepth 100000 in
set_option maxHeartbeats 4000000 in
theorem mT_isWell (l : Launch) (h0 : Hp) (z0 : Nat) (a0 : Nat) (r : Int32) (hr : FT_isWell h0 a0 = some r) : vM True l yT_isWell (Cond.code yT_isWell prog_5_method_25_code 2 (some (.boolean)) :: gW) 4 [.ref a0] h0 z0 h0 z0 (some (.int r)) 0 0 := by
  refine vM.of (by decide) rfl (Nat.le_of_ble_eq_true rfl) ?_
  intro p e s m args below meth c D dA C hin2
  refine (?_ : vO p l e (vR 4 0 0) s m args below meth c D dA (vA h0 z0) 2 True (fun r : Int32 => MQ below (vQc True h0 z0 D dA h0 z0 (some (.int r))) args s 0 0 (vAr True h0 z0)) 0 0 h0 z0 [(0, .ref a0)] 0 [] (FT_isWell h0 a0)) r hr
  obtain ⟨Q, hQ⟩ : ∃ Q : Int32 → State → Prop, Q = (fun r : Int32 => MQ below (vQc True h0 z0 D dA h0 z0 (some (.int r))) args s 0 0 (vAr True h0 z0)) := ⟨_, rfl⟩
  rw [← hQ]
  unfold FT_isWell
  refine v_iconst (v := 0) C dT_isWell_0 (by decide) ?_
  refine v_istore_n (lv' := [(0, .ref a0), (1, .int 0)]) C dT_isWell_1 rfl (by decide) [1, 0] rfl ?_
  refine v_jn (fun (j : Option Int32) => vO p l e (vR 4 0 0) s m args below meth c D dA (vA h0 z0) 2 True Q 0 0 h0 z0 [(0, .ref a0)] 51 [] j) ?_ (fun K1 HK1 => ?_)
  · refine v_iconst (v := 0) C dT_isWell_51 (by decide) ?_
    refine v_istore_n (lv' := [(0, .ref a0), (1, .int 0)]) C dT_isWell_52 rfl (by decide) [1, 0] rfl ?_
    refine v_jn (fun (j : Option Int32) => vO p l e (vR 4 0 0) s m args below meth c D dA (vA h0 z0) 2 True Q 0 0 h0 z0 [] 90 [] j) ?_ (fun K2 HK2 => ?_)
    · refine v_iconst (v := 1) C dT_isWell_90 (by decide) ?_
      exact v_zret C dT_isWell_91 (by rw [hQ])
    · refine v_jn (fun (j : Option Int32) => vO p l e (vR 4 0 0) s m args below meth c D dA (vA h0 z0) 2 True Q 0 0 h0 z0 [] 82 [] j) ?_ (fun K3 HK3 => ?_)
      · refine v_iconst (v := 0) C dT_isWell_82 (by decide) ?_
        exact v_zret C dT_isWell_83 (by rw [hQ])
      · refine lpG_ind (bot := (fun _ => none)) (B := LT_isWell_53 h0 a0 K2 K3) (fun (r : Int32 → Option Int32) => ∀ (x4 : Int32), vO p l e (vR 4 0 0) s m args below meth c D dA (vA h0 z0) 2 True Q 0 0 h0 z0 [(0, .ref a0), (1, .int x4)] 53 [] (r x4)) ?_ ?_ fu 0
        · intro x4
          exact v_none
        · intro rec5 Hrec5 x4
          unfold LT_isWell_53
          refine v_iload_n C dT_isWell_53 rfl 1 rfl ?_
          refine v_aload_n C dT_isWell_54 rfl 0 rfl ?_
          refine v_getI C v_cl3 (by decide) in_3 rfl w_160 dT_isWell_55 (fun x6 => ?_)
          refine v_icmp_ge (tgt := 90) C dT_isWell_58 (by decide) ?_ ?_
          · refine v_lv (lv' := []) [] rfl ?_
            exact HK2
          · refine v_aload_n C dT_isWell_61 rfl 0 rfl ?_
            refine v_iload_n C dT_isWell_62 rfl 1 rfl ?_
            refine v_gd fun hO7 => ?_
            refine v_bind fun r8 hr8 => ?_
            refine v_callV0 (N := 1) (As := [.int x4]) (st := []) C (fun _ => trivial) (mT_hasLeafOf l h0 z0 a0 x4 r8 hr8) rfl w_281 w_52 (by decide +kernel) ⟨Nat.le_of_ble_eq_true rfl, Nat.le_of_ble_eq_true rfl⟩ rfl rfl (Nat.le_of_ble_eq_true rfl) ⟨Nat.zero_le _, Nat.zero_le _⟩ w_328 w_279 w_280 v_cl3 rfl hO7 dT_isWell_63 ?_
            refine v_jn (fun (j : Option Int32) => vO p l e (vR 4 0 0) s m args below meth c D dA (vA h0 z0) 2 True Q 0 0 h0 z0 [(0, .ref a0), (1, .int x4)] 84 [] j) ?_ (fun j9 Hj9 => ?_)
            · refine v_iinc (v := (x4 + 1)) (lv' := [(0, .ref a0), (1, .int (x4 + 1))]) C dT_isWell_84 1 rfl rfl (by decide) [1, 0] rfl ?_
              refine v_goto (tgt := 53) C dT_isWell_87 (by decide) ?_
              exact Hrec5 (x4 + 1)
            · refine v_if_eq (tgt := 84) C dT_isWell_66 (by decide) ?_ ?_
              · exact Hj9
              · refine v_aload_n C dT_isWell_69 rfl 0 rfl ?_
                refine v_aload_n C dT_isWell_70 rfl 0 rfl ?_
                refine v_iload_n C dT_isWell_71 rfl 1 rfl ?_
                refine v_gd fun hO10 => ?_
                refine v_bind fun r11 hr11 => ?_
                refine v_callV0 (N := 1) (As := [.int x4]) (st := [.ref a0]) C (fun _ => trivial) (mT_leafOf l h0 z0 a0 x4 r11 hr11) rfl w_285 w_52 (by decide +kernel) ⟨Nat.le_of_ble_eq_true rfl, Nat.le_of_ble_eq_true rfl⟩ rfl rfl (Nat.le_of_ble_eq_true rfl) ⟨Nat.zero_le _, Nat.zero_le _⟩ w_282 w_283 w_284 v_cl3 rfl hO10 dT_isWell_72 ?_
                refine v_gd fun hO12 => ?_
                refine v_bind fun r13 hr13 => ?_
                refine v_callV0 (N := 1) (As := [.int r11]) (st := []) C (fun _ => trivial) (mT_signAt l h0 z0 a0 r11 r13 hr13) rfl w_360 w_52 (by decide +kernel) ⟨Nat.le_of_ble_eq_true rfl, Nat.le_of_ble_eq_true rfl⟩ rfl rfl (Nat.le_of_ble_eq_true rfl) ⟨Nat.zero_le _, Nat.zero_le _⟩ w_357 w_358 w_359 v_cl3 rfl hO12 dT_isWell_75 ?_
                refine v_iload_n C dT_isWell_78 rfl 1 rfl ?_
                refine v_icmp_eq (tgt := 84) C dT_isWell_79 (by decide) ?_ ?_
                · exact Hj9
                · refine v_lv (lv' := []) [] rfl ?_
                  exact HK3
  · refine v_jn (fun (j : Option Int32) => vO p l e (vR 4 0 0) s m args below meth c D dA (vA h0 z0) 2 True Q 0 0 h0 z0 [] 43 [] j) ?_ (fun K14 HK14 => ?_)
    · refine v_iconst (v := 0) C dT_isWell_43 (by decide) ?_
      exact v_zret C dT_isWell_44 (by rw [hQ])
    · refine v_jn (fun (j : Option Int32) => vO p l e (vR 4 0 0) s m args below meth c D dA (vA h0 z0) 2 True Q 0 0 h0 z0 [] 26 [] j) ?_ (fun K15 HK15 => ?_)
      · refine v_iconst (v := 0) C dT_isWell_26 (by decide) ?_
        exact v_zret C dT_isWell_27 (by rw [hQ])
      · refine lpG_ind (bot := (fun _ => none)) (B := LT_isWell_2 h0 a0 K1 K14 K15) (fun (r : Int32 → Option Int32) => ∀ (x16 : Int32), vO p l e (vR 4 0 0) s m args below meth c D dA (vA h0 z0) 2 True Q 0 0 h0 z0 [(0, .ref a0), (1, .int x16)] 2 [] (r x16)) ?_ ?_ fu 0
        · intro x16
          exact v_none
        · intro rec17 Hrec17 x16
          unfold LT_isWell_2
          refine v_iload_n C dT_isWell_2 rfl 1 rfl ?_
          refine v_aload_n C dT_isWell_3 rfl 0 rfl ?_
          refine v_getI C v_cl3 (by decide) in_3 rfl w_170 dT_isWell_4 (fun x18 => ?_)
          refine v_icmp_ge (tgt := 51) C dT_isWell_7 (by decide) ?_ ?_
          · refine v_lv (lv' := [(0, .ref a0)]) [0] rfl ?_
            exact HK1
          · refine v_aload_n C dT_isWell_10 rfl 0 rfl ?_
            refine v_iload_n C dT_isWell_11 rfl 1 rfl ?_
            refine v_gd fun hO19 => ?_
            refine v_bind fun r20 hr20 => ?_
            refine v_callV0 (N := 1) (As := [.int x16]) (st := []) C (fun _ => trivial) (mT_areChildrenWell l h0 z0 a0 x16 r20 hr20) rfl w_478 w_52 (by decide +kernel) ⟨Nat.le_of_ble_eq_true rfl, Nat.le_of_ble_eq_true rfl⟩ rfl rfl (Nat.le_of_ble_eq_true rfl) ⟨Nat.zero_le _, Nat.zero_le _⟩ w_475 w_477 w_19 v_cl3 rfl hO19 dT_isWell_12 ?_
            refine v_if_eq (tgt := 26) C dT_isWell_15 (by decide) ?_ ?_
            · refine v_lv (lv' := []) [] rfl ?_
              exact HK15
            · refine v_aload_n C dT_isWell_18 rfl 0 rfl ?_
              refine v_iload_n C dT_isWell_19 rfl 1 rfl ?_
              refine v_gd fun hO21 => ?_
              refine v_bind fun r22 hr22 => ?_
              refine v_callV0 (N := 1) (As := [.int x16]) (st := []) C (fun _ => trivial) (mT_isOnlyLeafOfItsSign l h0 z0 a0 x16 r22 hr22) rfl w_486 w_52 (by decide +kernel) ⟨Nat.le_of_ble_eq_true rfl, Nat.le_of_ble_eq_true rfl⟩ rfl rfl (Nat.le_of_ble_eq_true rfl) ⟨Nat.zero_le _, Nat.zero_le _⟩ w_483 w_485 w_21 v_cl3 rfl hO21 dT_isWell_20 ?_
              refine v_if_ne (tgt := 28) C dT_isWell_23 (by decide) ?_ ?_
              · refine v_aload_n C dT_isWell_28 rfl 0 rfl ?_
                refine v_getI C v_cl3 (by decide) in_3 rfl w_168 dT_isWell_29 (fun x23 => ?_)
                refine v_jn (fun (j : Option Int32) => vO p l e (vR 4 0 0) s m args below meth c D dA (vA h0 z0) 2 True Q 0 0 h0 z0 [(0, .ref a0), (1, .int x16)] 45 [] j) ?_ (fun j24 Hj24 => ?_)
                · refine v_iinc (v := (x16 + 1)) (lv' := [(0, .ref a0), (1, .int (x16 + 1))]) C dT_isWell_45 1 rfl rfl (by decide) [1, 0] rfl ?_
                  refine v_goto (tgt := 2) C dT_isWell_48 (by decide) ?_
                  exact Hrec17 (x16 + 1)
                · refine v_if_ne (tgt := 45) C dT_isWell_32 (by decide) ?_ ?_
                  · exact Hj24
                  · refine v_aload_n C dT_isWell_35 rfl 0 rfl ?_
                    refine v_iload_n C dT_isWell_36 rfl 1 rfl ?_
                    refine v_gd fun hO25 => ?_
                    refine v_bind fun r26 hr26 => ?_
                    refine v_callV0 (N := 1) (As := [.int x16]) (st := []) C (fun _ => trivial) (mT_isCountWell l h0 z0 a0 x16 r26 hr26) rfl w_490 w_52 (by decide +kernel) ⟨Nat.le_of_ble_eq_true rfl, Nat.le_of_ble_eq_true rfl⟩ rfl rfl (Nat.le_of_ble_eq_true rfl) ⟨Nat.zero_le _, Nat.zero_le _⟩ w_487 w_489 w_22 v_cl3 rfl hO25 dT_isWell_37 ?_
                    refine v_if_ne (tgt := 45) C dT_isWell_40 (by decide) ?_ ?_
                    · exact Hj24
                    · refine v_lv (lv' := []) [] rfl ?_
                      exact HK14
              · refine v_lv (lv' := []) [] rfl ?_
                exact HK15
theorem dA_well_0 : decode prog_1_method_18_code 0 = .ok (.iload_n 1, 1) := by decide +kernel
theorem dA_well_1 : decode prog_1_method_18_code 1 = .ok (.invokestatic 123, 3) := by decide +kernel
theorem dA_well_4 : decode prog_1_method_18_code 4 = .ok (.ifCond .eq 25, 3) := by decide +kernel
theorem dA_well_7 : decode prog_1_method_18_code 7 = .ok (.iload_n 2, 1) := by decide +kernel
theorem dA_well_8 : decode prog_1_method_18_code 8 = .ok (.invokestatic 83, 3) := by decide +kernel
theorem dA_well_11 : decode prog_1_method_18_code 11 = .ok (.ifCond .eq 18, 3) := by decide +kernel
theorem dA_well_14 : decode prog_1_method_18_code 14 = .ok (.aload_n 0, 1) := by decide +kernel
theorem dA_well_15 : decode prog_1_method_18_code 15 = .ok (.iload_n 1, 1) := by decide +kernel
theorem dA_well_16 : decode prog_1_method_18_code 16 = .ok (.iload_n 2, 1) := by decide +kernel
theorem dA_well_17 : decode prog_1_method_18_code 17 = .ok (.invokevirtual 126, 3) := by decide +kernel
theorem dA_well_20 : decode prog_1_method_18_code 20 = .ok (.invokevirtual 175, 3) := by decide +kernel
theorem dA_well_23 : decode prog_1_method_18_code 23 = .ok (.invokestatic 133, 3) := by decide +kernel
theorem dA_well_26 : decode prog_1_method_18_code 26 = .ok (.goto 5, 3) := by decide +kernel
theorem dA_well_29 : decode prog_1_method_18_code 29 = .ok (.bipush (-2), 2) := by decide +kernel
theorem dA_well_31 : decode prog_1_method_18_code 31 = .ok (.ireturn, 1) := by decide +kernel
def FA_well (h0 : Hp) (a0 : Nat) (p1 : Int32) (p2 : Int32) : Option Int32 :=
  (FA_isEnd h0 p1).bind (fun r1 =>
  jn (fun (y2 : Int32) =>
  some y2)
  (fun (j3 : Int32 → Option Int32) =>
  jn (j3 (-2))
  (fun (j4 : Option Int32) =>
  if r1 = 0 then
    (j4)
  else
    ((FA_isTree h0 p2).bind (fun r5 =>
    if r5 = 0 then
      (j4)
    else
      (gd (isO h0 a0 4 = true) ((FA_treeOf h0 a0 p1 p2).bind (fun r7 =>
      gd (isO h0 r7 3 = true) ((FT_isWell h0 r7).bind (fun r9 =>
      (FA_oneIf h0 r9).bind (fun r10 =>
      j3 r10)))))))))))
set_option maxRecDepth 100000 in
set_option maxHeartbeats 4000000 in
theorem mA_well (l : Launch) (h0 : Hp) (z0 : Nat) (a0 : Nat) (p1 : Int32) (p2 : Int32) (r : Int32) (hr : FA_well h0 a0 p1 p2 = some r) : vM True l yA_well (Cond.code yA_well prog_1_method_18_code 3 (some (.int)) :: gW) 5 [.ref a0, .int p1, .int p2] h0 z0 h0 z0 (some (.int r)) 0 0 := by
  refine vM.of (by decide) rfl (Nat.le_of_ble_eq_true rfl) ?_
  intro p e s m args below meth c D dA C hin2
  refine (?_ : vO p l e (vR 5 0 0) s m args below meth c D dA (vA h0 z0) 3 True (fun r : Int32 => MQ below (vQc True h0 z0 D dA h0 z0 (some (.int r))) args s 0 0 (vAr True h0 z0)) 0 0 h0 z0 [(0, .ref a0), (1, .int p1), (2, .int p2)] 0 [] (FA_well h0 a0 p1 p2)) r hr
  obtain ⟨Q, hQ⟩ : ∃ Q : Int32 → State → Prop, Q = (fun r : Int32 => MQ below (vQc True h0 z0 D dA h0 z0 (some (.int r))) args s 0 0 (vAr True h0 z0)) := ⟨_, rfl⟩
  rw [← hQ]
  unfold FA_well
  refine v_iload_n C dA_well_0 rfl 1 rfl ?_
  refine v_bind fun r1 hr1 => ?_
  refine v_callS0 (N := 1) (As := [.int p1]) (st := []) C (fun _ => trivial) (mA_isEnd l h0 z0 p1 r1 hr1) rfl w_435 w_47 (by decide +kernel) ⟨Nat.le_of_ble_eq_true rfl, Nat.le_of_ble_eq_true rfl⟩ rfl rfl (Nat.le_of_ble_eq_true rfl) ⟨Nat.zero_le _, Nat.zero_le _⟩ w_433 w_434 dA_well_1 ?_
  refine v_jn (fun (j : Int32 → Option Int32) => ∀ (y2 : Int32), vO p l e (vR 5 0 0) s m args below meth c D dA (vA h0 z0) 3 True Q 0 0 h0 z0 [] 31 [.int y2] (j y2)) ?_ (fun j3 Hj3 => ?_)
  · intro y2
    exact v_iret C dA_well_31 (by rw [hQ])
  · refine v_jn (fun (j : Option Int32) => vO p l e (vR 5 0 0) s m args below meth c D dA (vA h0 z0) 3 True Q 0 0 h0 z0 [] 29 [] j) ?_ (fun j4 Hj4 => ?_)
    · refine v_bipush (v := (-2)) C dA_well_29 (by decide) ?_
      exact Hj3 (-2)
    · refine v_if_eq (tgt := 29) C dA_well_4 (by decide) ?_ ?_
      · refine v_lv (lv' := []) [] rfl ?_
        exact Hj4
      · refine v_iload_n C dA_well_7 rfl 2 rfl ?_
        refine v_bind fun r5 hr5 => ?_
        refine v_callS0 (N := 1) (As := [.int p2]) (st := []) C (fun _ => trivial) (mA_isTree l h0 z0 p2 r5 hr5) rfl w_244 w_47 (by decide +kernel) ⟨Nat.le_of_ble_eq_true rfl, Nat.le_of_ble_eq_true rfl⟩ rfl rfl (Nat.le_of_ble_eq_true rfl) ⟨Nat.zero_le _, Nat.zero_le _⟩ w_242 w_243 dA_well_8 ?_
        refine v_if_eq (tgt := 29) C dA_well_11 (by decide) ?_ ?_
        · refine v_lv (lv' := []) [] rfl ?_
          exact Hj4
        · refine v_aload_n C dA_well_14 rfl 0 rfl ?_
          refine v_iload_n C dA_well_15 rfl 1 rfl ?_
          refine v_iload_n C dA_well_16 rfl 2 rfl ?_
          refine v_gd fun hO6 => ?_
          refine v_bind fun r7 hr7 => ?_
          refine v_callV0 (N := 2) (As := [.int p1, .int p2]) (st := []) C (fun _ => trivial) (mA_treeOf l h0 z0 a0 p1 p2 r7 hr7) rfl w_439 w_47 (by decide +kernel) ⟨Nat.le_of_ble_eq_true rfl, Nat.le_of_ble_eq_true rfl⟩ rfl rfl (Nat.le_of_ble_eq_true rfl) ⟨Nat.zero_le _, Nat.zero_le _⟩ w_436 w_438 w_18 v_cl4 rfl hO6 dA_well_17 ?_
          refine v_gd fun hO8 => ?_
          refine v_bind fun r9 hr9 => ?_
          refine v_callV0 (N := 0) (As := []) (st := []) C (fun _ => trivial) (mT_isWell l h0 z0 r7 r9 hr9) rfl w_474 w_52 (by decide +kernel) ⟨Nat.le_of_ble_eq_true rfl, Nat.le_of_ble_eq_true rfl⟩ rfl rfl (Nat.le_of_ble_eq_true rfl) ⟨Nat.zero_le _, Nat.zero_le _⟩ w_471 w_472 w_473 v_cl3 rfl hO8 dA_well_20 ?_
          refine v_bind fun r10 hr10 => ?_
          refine v_callS0 (N := 1) (As := [.int r9]) (st := []) C (fun _ => trivial) (mA_oneIf l h0 z0 r9 r10 hr10) rfl w_450 w_47 (by decide +kernel) ⟨Nat.le_of_ble_eq_true rfl, Nat.le_of_ble_eq_true rfl⟩ rfl rfl (Nat.le_of_ble_eq_true rfl) ⟨Nat.zero_le _, Nat.zero_le _⟩ w_448 w_449 dA_well_23 ?_
          refine v_goto (tgt := 31) C dA_well_26 (by decide) ?_
          refine v_lv (lv' := []) [] rfl ?_
          exact Hj3 r10
