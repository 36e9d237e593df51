theorem dM_thrown_0 : decode prog_7_method_2_code 0 = .ok (.aload_n 0, 1) := by decide +kernel
theorem dM_thrown_1 : decode prog_7_method_2_code 1 = .ok (.getfield 73, 3) := by decide +kernel
theorem dM_thrown_4 : decode prog_7_method_2_code 4 = .ok (.ireturn, 1) := by decide +kernel
def FM_thrown (h0 : Hp) (a0 : Nat) : Option Int32 :=
  gI h0 a0 5 20 (fun x1 =>
  some x1)
set_option maxRecDepth 100000 in
set_option maxHeartbeats 4000000 in
theorem mM_thrown (l : Launch) (h0 : Hp) (z0 : Nat) (a0 : Nat) (r : Int32) (hr : FM_thrown h0 a0 = some r) : vM True l yM_thrown (Cond.code yM_thrown prog_7_method_2_code 1 (some (.int)) :: gW) 0 [.ref a0] h0 z0 h0 z0 (some (.int r)) 0 0 := by
  refine vM.of (by decide) rfl (Nat.le_of_ble_eq_true rfl) ?_
  intro p e s m args below meth c D dA C hin2
  refine (?_ : vO p l e (vR 0 0 0) s m args below meth c D dA (vA h0 z0) 1 True (fun r : Int32 => MQ below (vQc True h0 z0 D dA h0 z0 (some (.int r))) args s 0 0 (vAr True h0 z0)) 0 0 h0 z0 [(0, .ref a0)] 0 [] (FM_thrown h0 a0)) r hr
  obtain ⟨Q, hQ⟩ : ∃ Q : Int32 → State → Prop, Q = (fun r : Int32 => MQ below (vQc True h0 z0 D dA h0 z0 (some (.int r))) args s 0 0 (vAr True h0 z0)) := ⟨_, rfl⟩
  rw [← hQ]
  unfold FM_thrown
  refine v_aload_n C dM_thrown_0 rfl 0 rfl ?_
  refine v_getI C v_cl5 (by decide) in_5 rfl w_629 dM_thrown_1 (fun x1 => ?_)
  exact v_iret C dM_thrown_4 (by rw [hQ])
theorem dM_isIn_0 : decode prog_7_method_3_code 0 = .ok (.iload_n 0, 1) := by decide +kernel
theorem dM_isIn_1 : decode prog_7_method_3_code 1 = .ok (.iload_n 1, 1) := by decide +kernel
theorem dM_isIn_2 : decode prog_7_method_3_code 2 = .ok (.if_icmp .lt 12, 3) := by decide +kernel
theorem dM_isIn_5 : decode prog_7_method_3_code 5 = .ok (.iload_n 0, 1) := by decide +kernel
theorem dM_isIn_6 : decode prog_7_method_3_code 6 = .ok (.iload_n 2, 1) := by decide +kernel
theorem dM_isIn_7 : decode prog_7_method_3_code 7 = .ok (.if_icmp .gt 7, 3) := by decide +kernel
theorem dM_isIn_10 : decode prog_7_method_3_code 10 = .ok (.iconst 1, 1) := by decide +kernel
theorem dM_isIn_11 : decode prog_7_method_3_code 11 = .ok (.goto 4, 3) := by decide +kernel
theorem dM_isIn_14 : decode prog_7_method_3_code 14 = .ok (.iconst 0, 1) := by decide +kernel
theorem dM_isIn_15 : decode prog_7_method_3_code 15 = .ok (.ireturn, 1) := by decide +kernel
def FM_isIn (h0 : Hp) (p0 : Int32) (p1 : Int32) (p2 : Int32) : Option Int32 :=
  jn (fun (y1 : Int32) =>
  gd (y1 = 0 ∨ y1 = 1) (some y1))
  (fun (j2 : Int32 → Option Int32) =>
  jn (j2 0)
  (fun (j3 : Option Int32) =>
  if p0 < p1 then
    (j3)
  else
    (if p2 < p0 then
      (j3)
    else
      (j2 1))))
set_option maxRecDepth 100000 in
set_option maxHeartbeats 4000000 in
theorem mM_isIn (l : Launch) (h0 : Hp) (z0 : Nat) (p0 : Int32) (p1 : Int32) (p2 : Int32) (r : Int32) (hr : FM_isIn h0 p0 p1 p2 = some r) : vM True l yM_isIn (Cond.code yM_isIn prog_7_method_3_code 3 (some (.boolean)) :: gW) 0 [.int p0, .int p1, .int p2] h0 z0 h0 z0 (some (.int r)) 0 0 := by
  refine vM.of (by decide) rfl (Nat.le_of_ble_eq_true rfl) ?_
  intro p e s m args below meth c D dA C hin2
  refine (?_ : vO p l e (vR 0 0 0) s m args below meth c D dA (vA h0 z0) 3 True (fun r : Int32 => MQ below (vQc True h0 z0 D dA h0 z0 (some (.int r))) args s 0 0 (vAr True h0 z0)) 0 0 h0 z0 [(0, .int p0), (1, .int p1), (2, .int p2)] 0 [] (FM_isIn h0 p0 p1 p2)) r hr
  obtain ⟨Q, hQ⟩ : ∃ Q : Int32 → State → Prop, Q = (fun r : Int32 => MQ below (vQc True h0 z0 D dA h0 z0 (some (.int r))) args s 0 0 (vAr True h0 z0)) := ⟨_, rfl⟩
  rw [← hQ]
  unfold FM_isIn
  refine v_iload_n C dM_isIn_0 rfl 0 rfl ?_
  refine v_iload_n C dM_isIn_1 rfl 1 rfl ?_
  refine v_jn (fun (j : Int32 → Option Int32) => ∀ (y1 : Int32), vO p l e (vR 0 0 0) s m args below meth c D dA (vA h0 z0) 3 True Q 0 0 h0 z0 [] 15 [.int y1] (j y1)) ?_ (fun j2 Hj2 => ?_)
  · intro y1
    exact v_zret C dM_isIn_15 (by rw [hQ])
  · refine v_jn (fun (j : Option Int32) => vO p l e (vR 0 0 0) s m args below meth c D dA (vA h0 z0) 3 True Q 0 0 h0 z0 [] 14 [] j) ?_ (fun j3 Hj3 => ?_)
    · refine v_iconst (v := 0) C dM_isIn_14 (by decide) ?_
      exact Hj2 0
    · refine v_icmp_lt (tgt := 14) C dM_isIn_2 (by decide) ?_ ?_
      · refine v_lv (lv' := []) [] rfl ?_
        exact Hj3
      · refine v_iload_n C dM_isIn_5 rfl 0 rfl ?_
        refine v_iload_n C dM_isIn_6 rfl 2 rfl ?_
        refine v_icmp_gt (tgt := 14) C dM_isIn_7 (by decide) ?_ ?_
        · refine v_lv (lv' := []) [] rfl ?_
          exact Hj3
        · refine v_iconst (v := 1) C dM_isIn_10 (by decide) ?_
          refine v_goto (tgt := 15) C dM_isIn_11 (by decide) ?_
          refine v_lv (lv' := []) [] rfl ?_
          exact Hj2 1
theorem dM_isTree_0 : decode prog_7_method_4_code 0 = .ok (.iload_n 0, 1) := by decide +kernel
theorem dM_isTree_1 : decode prog_7_method_4_code 1 = .ok (.iconst 0, 1) := by decide +kernel
theorem dM_isTree_2 : decode prog_7_method_4_code 2 = .ok (.iconst 1, 1) := by decide +kernel
theorem dM_isTree_3 : decode prog_7_method_4_code 3 = .ok (.invokestatic 76, 3) := by decide +kernel
theorem dM_isTree_6 : decode prog_7_method_4_code 6 = .ok (.ifCond .eq 16, 3) := by decide +kernel
theorem dM_isTree_9 : decode prog_7_method_4_code 9 = .ok (.iload_n 1, 1) := by decide +kernel
theorem dM_isTree_10 : decode prog_7_method_4_code 10 = .ok (.iconst 0, 1) := by decide +kernel
theorem dM_isTree_11 : decode prog_7_method_4_code 11 = .ok (.iconst 3, 1) := by decide +kernel
theorem dM_isTree_12 : decode prog_7_method_4_code 12 = .ok (.invokestatic 76, 3) := by decide +kernel
theorem dM_isTree_15 : decode prog_7_method_4_code 15 = .ok (.ifCond .eq 7, 3) := by decide +kernel
theorem dM_isTree_18 : decode prog_7_method_4_code 18 = .ok (.iconst 1, 1) := by decide +kernel
theorem dM_isTree_19 : decode prog_7_method_4_code 19 = .ok (.goto 4, 3) := by decide +kernel
theorem dM_isTree_22 : decode prog_7_method_4_code 22 = .ok (.iconst 0, 1) := by decide +kernel
theorem dM_isTree_23 : decode prog_7_method_4_code 23 = .ok (.ireturn, 1) := by decide +kernel
def FM_isTree (h0 : Hp) (p0 : Int32) (p1 : Int32) : Option Int32 :=
  (FM_isIn h0 p0 0 1).bind (fun r1 =>
  jn (fun (y2 : Int32) =>
  gd (y2 = 0 ∨ y2 = 1) (some y2))
  (fun (j3 : Int32 → Option Int32) =>
  jn (j3 0)
  (fun (j4 : Option Int32) =>
  if r1 = 0 then
    (j4)
  else
    ((FM_isIn h0 p1 0 3).bind (fun r5 =>
    if r5 = 0 then
      (j4)
    else
      (j3 1))))))
set_option maxRecDepth 100000 in
set_option maxHeartbeats 4000000 in
theorem mM_isTree (l : Launch) (h0 : Hp) (z0 : Nat) (p0 : Int32) (p1 : Int32) (r : Int32) (hr : FM_isTree h0 p0 p1 = some r) : vM True l yM_isTree (Cond.code yM_isTree prog_7_method_4_code 2 (some (.boolean)) :: gW) 1 [.int p0, .int p1] h0 z0 h0 z0 (some (.int r)) 0 0 := by
  refine vM.of (by decide) rfl (Nat.le_of_ble_eq_true rfl) ?_
  intro p e s m args below meth c D dA C hin2
  refine (?_ : vO p l e (vR 1 0 0) s m args below meth c D dA (vA h0 z0) 2 True (fun r : Int32 => MQ below (vQc True h0 z0 D dA h0 z0 (some (.int r))) args s 0 0 (vAr True h0 z0)) 0 0 h0 z0 [(0, .int p0), (1, .int p1)] 0 [] (FM_isTree h0 p0 p1)) r hr
  obtain ⟨Q, hQ⟩ : ∃ Q : Int32 → State → Prop, Q = (fun r : Int32 => MQ below (vQc True h0 z0 D dA h0 z0 (some (.int r))) args s 0 0 (vAr True h0 z0)) := ⟨_, rfl⟩
  rw [← hQ]
  unfold FM_isTree
  refine v_iload_n C dM_isTree_0 rfl 0 rfl ?_
  refine v_iconst (v := 0) C dM_isTree_1 (by decide) ?_
  refine v_iconst (v := 1) C dM_isTree_2 (by decide) ?_
  refine v_bind fun r1 hr1 => ?_
  refine v_callS0 (N := 3) (As := [.int p0, .int 0, .int 1]) (st := []) C (fun _ => trivial) (mM_isIn l h0 z0 p0 0 1 r1 hr1) rfl w_698 w_53 (by decide +kernel) ⟨Nat.le_of_ble_eq_true rfl, Nat.le_of_ble_eq_true rfl⟩ rfl rfl (Nat.le_of_ble_eq_true rfl) ⟨Nat.zero_le _, Nat.zero_le _⟩ w_696 w_697 dM_isTree_3 ?_
  refine v_jn (fun (j : Int32 → Option Int32) => ∀ (y2 : Int32), vO p l e (vR 1 0 0) s m args below meth c D dA (vA h0 z0) 2 True Q 0 0 h0 z0 [] 23 [.int y2] (j y2)) ?_ (fun j3 Hj3 => ?_)
  · intro y2
    exact v_zret C dM_isTree_23 (by rw [hQ])
  · refine v_jn (fun (j : Option Int32) => vO p l e (vR 1 0 0) s m args below meth c D dA (vA h0 z0) 2 True Q 0 0 h0 z0 [] 22 [] j) ?_ (fun j4 Hj4 => ?_)
    · refine v_iconst (v := 0) C dM_isTree_22 (by decide) ?_
      exact Hj3 0
    · refine v_if_eq (tgt := 22) C dM_isTree_6 (by decide) ?_ ?_
      · refine v_lv (lv' := []) [] rfl ?_
        exact Hj4
      · refine v_iload_n C dM_isTree_9 rfl 1 rfl ?_
        refine v_iconst (v := 0) C dM_isTree_10 (by decide) ?_
        refine v_iconst (v := 3) C dM_isTree_11 (by decide) ?_
        refine v_bind fun r5 hr5 => ?_
        refine v_callS0 (N := 3) (As := [.int p1, .int 0, .int 3]) (st := []) C (fun _ => trivial) (mM_isIn l h0 z0 p1 0 3 r5 hr5) rfl w_698 w_53 (by decide +kernel) ⟨Nat.le_of_ble_eq_true rfl, Nat.le_of_ble_eq_true rfl⟩ rfl rfl (Nat.le_of_ble_eq_true rfl) ⟨Nat.zero_le _, Nat.zero_le _⟩ w_696 w_697 dM_isTree_12 ?_
        refine v_if_eq (tgt := 22) C dM_isTree_15 (by decide) ?_ ?_
        · refine v_lv (lv' := []) [] rfl ?_
          exact Hj4
        · refine v_iconst (v := 1) C dM_isTree_18 (by decide) ?_
          refine v_goto (tgt := 23) C dM_isTree_19 (by decide) ?_
          refine v_lv (lv' := []) [] rfl ?_
          exact Hj3 1
theorem dM_placeOf_0 : decode prog_7_method_6_code 0 = .ok (.iconst 0, 1) := by decide +kernel
theorem dM_placeOf_1 : decode prog_7_method_6_code 1 = .ok (.istore_n 3, 1) := by decide +kernel
theorem dM_placeOf_2 : decode prog_7_method_6_code 2 = .ok (.iload_n 3, 1) := by decide +kernel
theorem dM_placeOf_3 : decode prog_7_method_6_code 3 = .ok (.aload_n 0, 1) := by decide +kernel
theorem dM_placeOf_4 : decode prog_7_method_6_code 4 = .ok (.getfield 13, 3) := by decide +kernel
theorem dM_placeOf_7 : decode prog_7_method_6_code 7 = .ok (.iload_n 1, 1) := by decide +kernel
theorem dM_placeOf_8 : decode prog_7_method_6_code 8 = .ok (.iaload, 1) := by decide +kernel
theorem dM_placeOf_9 : decode prog_7_method_6_code 9 = .ok (.if_icmp .ge 25, 3) := by decide +kernel
theorem dM_placeOf_12 : decode prog_7_method_6_code 12 = .ok (.aload_n 0, 1) := by decide +kernel
theorem dM_placeOf_13 : decode prog_7_method_6_code 13 = .ok (.getfield 23, 3) := by decide +kernel
theorem dM_placeOf_16 : decode prog_7_method_6_code 16 = .ok (.sipush 129, 3) := by decide +kernel
theorem dM_placeOf_19 : decode prog_7_method_6_code 19 = .ok (.iload_n 1, 1) := by decide +kernel
theorem dM_placeOf_20 : decode prog_7_method_6_code 20 = .ok (.imul, 1) := by decide +kernel
theorem dM_placeOf_21 : decode prog_7_method_6_code 21 = .ok (.iload_n 3, 1) := by decide +kernel
theorem dM_placeOf_22 : decode prog_7_method_6_code 22 = .ok (.iadd, 1) := by decide +kernel
theorem dM_placeOf_23 : decode prog_7_method_6_code 23 = .ok (.iaload, 1) := by decide +kernel
theorem dM_placeOf_24 : decode prog_7_method_6_code 24 = .ok (.iload_n 2, 1) := by decide +kernel
theorem dM_placeOf_25 : decode prog_7_method_6_code 25 = .ok (.if_icmp .eq 9, 3) := by decide +kernel
theorem dM_placeOf_28 : decode prog_7_method_6_code 28 = .ok (.iinc 3 1, 3) := by decide +kernel
theorem dM_placeOf_31 : decode prog_7_method_6_code 31 = .ok (.goto (-29), 3) := by decide +kernel
theorem dM_placeOf_34 : decode prog_7_method_6_code 34 = .ok (.iload_n 3, 1) := by decide +kernel
theorem dM_placeOf_35 : decode prog_7_method_6_code 35 = .ok (.ireturn, 1) := by decide +kernel
def LM_placeOf_2 (h0 : Hp) (a0 : Nat) (p1 : Int32) (p2 : Int32) (K2 : Int32 → Option Int32) (rec4 : Int32 → Option Int32) (x3 : Int32) : Option Int32 :=
  gR h0 a0 5 4 (fun a5 =>
  ldI h0 a5 0 p1 (fun x6 =>
  if x6 ≤ x3 then
    (K2 x3)
  else
    (gR h0 a0 5 7 (fun a7 =>
    ldI h0 a7 0 ((129 * p1) + x3) (fun x8 =>
    if x8 = p2 then
      (K2 x3)
    else
      (rec4 (x3 + 1)))))))
def FM_placeOf (h0 : Hp) (a0 : Nat) (p1 : Int32) (p2 : Int32) : Option Int32 :=
  jn (fun (x1 : Int32) =>
  some x1)
  (fun (K2 : Int32 → Option Int32) =>
  lpG (fun _ => none) fu (LM_placeOf_2 h0 a0 p1 p2 K2) 0)
set_option maxRecDepth 100000 in
set_option maxHeartbeats 4000000 in
theorem mM_placeOf (l : Launch) (h0 : Hp) (z0 : Nat) (a0 : Nat) (p1 : Int32) (p2 : Int32) (r : Int32) (hr : FM_placeOf h0 a0 p1 p2 = some r) : vM True l yM_placeOf (Cond.code yM_placeOf prog_7_method_6_code 4 (some (.int)) :: gW) 0 [.ref a0, .int p1, .int p2] h0 z0 h0 z0 (some (.int r)) 0 0 := by
  refine vM.of (by decide) rfl (Nat.le_of_ble_eq_true rfl) ?_
  intro p e s m args below meth c D dA C hin2
  refine (?_ : vO p l e (vR 0 0 0) s m args below meth c D dA (vA h0 z0) 4 True (fun r : Int32 => MQ below (vQc True h0 z0 D dA h0 z0 (some (.int r))) args s 0 0 (vAr True h0 z0)) 0 0 h0 z0 [(0, .ref a0), (1, .int p1), (2, .int p2)] 0 [] (FM_placeOf h0 a0 p1 p2)) r hr
  obtain ⟨Q, hQ⟩ : ∃ Q : Int32 → State → Prop, Q = (fun r : Int32 => MQ below (vQc True h0 z0 D dA h0 z0 (some (.int r))) args s 0 0 (vAr True h0 z0)) := ⟨_, rfl⟩
  rw [← hQ]
  unfold FM_placeOf
  refine v_iconst (v := 0) C dM_placeOf_0 (by decide) ?_
  refine v_istore_n (lv' := [(0, .ref a0), (1, .int p1), (2, .int p2), (3, .int 0)]) C dM_placeOf_1 rfl (by decide) [1, 2, 3, 0] rfl ?_
  refine v_jn (fun (j : Int32 → Option Int32) => ∀ (x1 : Int32), vO p l e (vR 0 0 0) s m args below meth c D dA (vA h0 z0) 4 True Q 0 0 h0 z0 [(3, .int x1)] 34 [] (j x1)) ?_ (fun K2 HK2 => ?_)
  · intro x1
    refine v_iload_n C dM_placeOf_34 rfl 0 rfl ?_
    exact v_iret C dM_placeOf_35 (by rw [hQ])
  · refine lpG_ind (bot := (fun _ => none)) (B := LM_placeOf_2 h0 a0 p1 p2 K2) (fun (r : Int32 → Option Int32) => ∀ (x3 : Int32), vO p l e (vR 0 0 0) s m args below meth c D dA (vA h0 z0) 4 True Q 0 0 h0 z0 [(0, .ref a0), (1, .int p1), (2, .int p2), (3, .int x3)] 2 [] (r x3)) ?_ ?_ fu 0
    · intro x3
      exact v_none
    · intro rec4 Hrec4 x3
      unfold LM_placeOf_2
      refine v_iload_n C dM_placeOf_2 rfl 3 rfl ?_
      refine v_aload_n C dM_placeOf_3 rfl 0 rfl ?_
      refine v_getR C v_cl5 (by decide) in_5 rfl w_613 dM_placeOf_4 (fun a5 => ?_)
      refine v_iload_n C dM_placeOf_7 rfl 1 rfl ?_
      refine v_iald C rfl dM_placeOf_8 (fun x6 => ?_)
      refine v_icmp_ge (tgt := 34) C dM_placeOf_9 (by decide) ?_ ?_
      · refine v_lv (lv' := [(3, .int x3)]) [3] rfl ?_
        exact HK2 x3
      · refine v_aload_n C dM_placeOf_12 rfl 0 rfl ?_
        refine v_getR C v_cl5 (by decide) in_5 rfl w_616 dM_placeOf_13 (fun a7 => ?_)
        refine v_sipush (v := 129) C dM_placeOf_16 (by decide) ?_
        refine v_iload_n C dM_placeOf_19 rfl 1 rfl ?_
        refine v_imul C dM_placeOf_20 ?_
        refine v_iload_n C dM_placeOf_21 rfl 3 rfl ?_
        refine v_iadd C dM_placeOf_22 ?_
        refine v_iald C rfl dM_placeOf_23 (fun x8 => ?_)
        refine v_iload_n C dM_placeOf_24 rfl 2 rfl ?_
        refine v_icmp_eq (tgt := 34) C dM_placeOf_25 (by decide) ?_ ?_
        · refine v_lv (lv' := [(3, .int x3)]) [3] rfl ?_
          exact HK2 x3
        · refine v_iinc (v := (x3 + 1)) (lv' := [(0, .ref a0), (1, .int p1), (2, .int p2), (3, .int (x3 + 1))]) C dM_placeOf_28 3 rfl rfl (by decide) [1, 2, 3, 0] rfl ?_
          refine v_goto (tgt := 2) C dM_placeOf_31 (by decide) ?_
          exact Hrec4 (x3 + 1)
theorem dM_nodeOf_0 : decode prog_7_method_7_code 0 = .ok (.iconst (-1), 1) := by decide +kernel
theorem dM_nodeOf_1 : decode prog_7_method_7_code 1 = .ok (.istore_n 3, 1) := by decide +kernel
theorem dM_nodeOf_2 : decode prog_7_method_7_code 2 = .ok (.iconst 0, 1) := by decide +kernel
theorem dM_nodeOf_3 : decode prog_7_method_7_code 3 = .ok (.istore 4, 2) := by decide +kernel
theorem dM_nodeOf_5 : decode prog_7_method_7_code 5 = .ok (.iload 4, 2) := by decide +kernel
theorem dM_nodeOf_7 : decode prog_7_method_7_code 7 = .ok (.aload_n 0, 1) := by decide +kernel
theorem dM_nodeOf_8 : decode prog_7_method_7_code 8 = .ok (.getfield 13, 3) := by decide +kernel
theorem dM_nodeOf_11 : decode prog_7_method_7_code 11 = .ok (.iload_n 1, 1) := by decide +kernel
theorem dM_nodeOf_12 : decode prog_7_method_7_code 12 = .ok (.iaload, 1) := by decide +kernel
theorem dM_nodeOf_13 : decode prog_7_method_7_code 13 = .ok (.if_icmp .ge 33, 3) := by decide +kernel
theorem dM_nodeOf_16 : decode prog_7_method_7_code 16 = .ok (.aload_n 0, 1) := by decide +kernel
theorem dM_nodeOf_17 : decode prog_7_method_7_code 17 = .ok (.getfield 29, 3) := by decide +kernel
theorem dM_nodeOf_20 : decode prog_7_method_7_code 20 = .ok (.sipush 129, 3) := by decide +kernel
theorem dM_nodeOf_23 : decode prog_7_method_7_code 23 = .ok (.iload_n 1, 1) := by decide +kernel
theorem dM_nodeOf_24 : decode prog_7_method_7_code 24 = .ok (.imul, 1) := by decide +kernel
theorem dM_nodeOf_25 : decode prog_7_method_7_code 25 = .ok (.iload 4, 2) := by decide +kernel
theorem dM_nodeOf_27 : decode prog_7_method_7_code 27 = .ok (.iadd, 1) := by decide +kernel
theorem dM_nodeOf_28 : decode prog_7_method_7_code 28 = .ok (.iaload, 1) := by decide +kernel
theorem dM_nodeOf_29 : decode prog_7_method_7_code 29 = .ok (.iload_n 2, 1) := by decide +kernel
theorem dM_nodeOf_30 : decode prog_7_method_7_code 30 = .ok (.if_icmp .ne 8, 3) := by decide +kernel
theorem dM_nodeOf_33 : decode prog_7_method_7_code 33 = .ok (.iload 4, 2) := by decide +kernel
theorem dM_nodeOf_35 : decode prog_7_method_7_code 35 = .ok (.goto 4, 3) := by decide +kernel
theorem dM_nodeOf_38 : decode prog_7_method_7_code 38 = .ok (.iload_n 3, 1) := by decide +kernel
theorem dM_nodeOf_39 : decode prog_7_method_7_code 39 = .ok (.istore_n 3, 1) := by decide +kernel
theorem dM_nodeOf_40 : decode prog_7_method_7_code 40 = .ok (.iinc 4 1, 3) := by decide +kernel
theorem dM_nodeOf_43 : decode prog_7_method_7_code 43 = .ok (.goto (-38), 3) := by decide +kernel
theorem dM_nodeOf_46 : decode prog_7_method_7_code 46 = .ok (.iload_n 3, 1) := by decide +kernel
theorem dM_nodeOf_47 : decode prog_7_method_7_code 47 = .ok (.ireturn, 1) := by decide +kernel
def LM_nodeOf_5 (h0 : Hp) (a0 : Nat) (p1 : Int32) (p2 : Int32) (K2 : Int32 → Option Int32) (rec5 : Int32 → Int32 → Option Int32) (x3 : Int32) (x4 : Int32) : Option Int32 :=
  gR h0 a0 5 4 (fun a6 =>
  ldI h0 a6 0 p1 (fun x7 =>
  if x7 ≤ x4 then
    (K2 x3)
  else
    (gR h0 a0 5 9 (fun a8 =>
    ldI h0 a8 0 ((129 * p1) + x4) (fun x9 =>
    jn (fun (y10 : Int32) =>
    rec5 y10 (x4 + 1))
    (fun (j11 : Int32 → Option Int32) =>
    if x9 = p2 then
      (j11 x4)
    else
      (j11 x3)))))))
def FM_nodeOf (h0 : Hp) (a0 : Nat) (p1 : Int32) (p2 : Int32) : Option Int32 :=
  jn (fun (x1 : Int32) =>
  some x1)
  (fun (K2 : Int32 → Option Int32) =>
  lpG (fun _ _ => none) fu (LM_nodeOf_5 h0 a0 p1 p2 K2) (-1) 0)
set_option maxRecDepth 100000 in
set_option maxHeartbeats 4000000 in
theorem mM_nodeOf (l : Launch) (h0 : Hp) (z0 : Nat) (a0 : Nat) (p1 : Int32) (p2 : Int32) (r : Int32) (hr : FM_nodeOf h0 a0 p1 p2 = some r) : vM True l yM_nodeOf (Cond.code yM_nodeOf prog_7_method_7_code 5 (some (.int)) :: gW) 0 [.ref a0, .int p1, .int p2] h0 z0 h0 z0 (some (.int r)) 0 0 := by
  refine vM.of (by decide) rfl (Nat.le_of_ble_eq_true rfl) ?_
  intro p e s m args below meth c D dA C hin2
  refine (?_ : vO p l e (vR 0 0 0) s m args below meth c D dA (vA h0 z0) 5 True (fun r : Int32 => MQ below (vQc True h0 z0 D dA h0 z0 (some (.int r))) args s 0 0 (vAr True h0 z0)) 0 0 h0 z0 [(0, .ref a0), (1, .int p1), (2, .int p2)] 0 [] (FM_nodeOf h0 a0 p1 p2)) r hr
  obtain ⟨Q, hQ⟩ : ∃ Q : Int32 → State → Prop, Q = (fun r : Int32 => MQ below (vQc True h0 z0 D dA h0 z0 (some (.int r))) args s 0 0 (vAr True h0 z0)) := ⟨_, rfl⟩
  rw [← hQ]
  unfold FM_nodeOf
  refine v_iconst (v := (-1)) C dM_nodeOf_0 (by decide) ?_
  refine v_istore_n (lv' := [(0, .ref a0), (1, .int p1), (2, .int p2), (3, .int (-1))]) C dM_nodeOf_1 rfl (by decide) [1, 2, 3, 0] rfl ?_
  refine v_iconst (v := 0) C dM_nodeOf_2 (by decide) ?_
  refine v_istore (lv' := [(0, .ref a0), (1, .int p1), (2, .int p2), (3, .int (-1)), (4, .int 0)]) C dM_nodeOf_3 (by decide) [1, 2, 3, 4, 0] rfl ?_
  refine v_jn (fun (j : Int32 → Option Int32) => ∀ (x1 : Int32), vO p l e (vR 0 0 0) s m args below meth c D dA (vA h0 z0) 5 True Q 0 0 h0 z0 [(3, .int x1)] 46 [] (j x1)) ?_ (fun K2 HK2 => ?_)
  · intro x1
    refine v_iload_n C dM_nodeOf_46 rfl 0 rfl ?_
    exact v_iret C dM_nodeOf_47 (by rw [hQ])
  · refine lpG_ind (bot := (fun _ _ => none)) (B := LM_nodeOf_5 h0 a0 p1 p2 K2) (fun (r : Int32 → Int32 → Option Int32) => ∀ (x3 : Int32), ∀ (x4 : Int32), vO p l e (vR 0 0 0) s m args below meth c D dA (vA h0 z0) 5 True Q 0 0 h0 z0 [(0, .ref a0), (1, .int p1), (2, .int p2), (3, .int x3), (4, .int x4)] 5 [] (r x3 x4)) ?_ ?_ fu (-1) 0
    · intro x3 x4
      exact v_none
    · intro rec5 Hrec5 x3 x4
      unfold LM_nodeOf_5
      refine v_iload C dM_nodeOf_5 4 rfl ?_
      refine v_aload_n C dM_nodeOf_7 rfl 0 rfl ?_
      refine v_getR C v_cl5 (by decide) in_5 rfl w_613 dM_nodeOf_8 (fun a6 => ?_)
      refine v_iload_n C dM_nodeOf_11 rfl 1 rfl ?_
      refine v_iald C rfl dM_nodeOf_12 (fun x7 => ?_)
      refine v_icmp_ge (tgt := 46) C dM_nodeOf_13 (by decide) ?_ ?_
      · refine v_lv (lv' := [(3, .int x3)]) [3] rfl ?_
        exact HK2 x3
      · refine v_aload_n C dM_nodeOf_16 rfl 0 rfl ?_
        refine v_getR C v_cl5 (by decide) in_5 rfl w_618 dM_nodeOf_17 (fun a8 => ?_)
        refine v_sipush (v := 129) C dM_nodeOf_20 (by decide) ?_
        refine v_iload_n C dM_nodeOf_23 rfl 1 rfl ?_
        refine v_imul C dM_nodeOf_24 ?_
        refine v_iload C dM_nodeOf_25 4 rfl ?_
        refine v_iadd C dM_nodeOf_27 ?_
        refine v_iald C rfl dM_nodeOf_28 (fun x9 => ?_)
        refine v_iload_n C dM_nodeOf_29 rfl 2 rfl ?_
        refine v_jn (fun (j : Int32 → Option Int32) => ∀ (y10 : Int32), vO p l e (vR 0 0 0) s m args below meth c D dA (vA h0 z0) 5 True Q 0 0 h0 z0 [(0, .ref a0), (1, .int p1), (2, .int p2), (4, .int x4)] 39 [.int y10] (j y10)) ?_ (fun j11 Hj11 => ?_)
        · intro y10
          refine v_istore_n (lv' := [(0, .ref a0), (1, .int p1), (2, .int p2), (3, .int y10), (4, .int x4)]) C dM_nodeOf_39 rfl (by decide) [1, 2, 3, 0, 4] rfl ?_
          refine v_iinc (v := (x4 + 1)) (lv' := [(0, .ref a0), (1, .int p1), (2, .int p2), (3, .int y10), (4, .int (x4 + 1))]) C dM_nodeOf_40 4 rfl rfl (by decide) [1, 2, 3, 4, 0] rfl ?_
          refine v_goto (tgt := 5) C dM_nodeOf_43 (by decide) ?_
          exact Hrec5 y10 (x4 + 1)
        · refine v_icmp_ne (tgt := 38) C dM_nodeOf_30 (by decide) ?_ ?_
          · refine v_iload_n C dM_nodeOf_38 rfl 3 rfl ?_
            refine v_lv (lv' := [(0, .ref a0), (1, .int p1), (2, .int p2), (4, .int x4)]) [0, 1, 2, 4] rfl ?_
            exact Hj11 x3
          · refine v_iload C dM_nodeOf_33 4 rfl ?_
            refine v_goto (tgt := 39) C dM_nodeOf_35 (by decide) ?_
            refine v_lv (lv' := [(0, .ref a0), (1, .int p1), (2, .int p2), (4, .int x4)]) [0, 1, 2, 4] rfl ?_
            exact Hj11 x4
theorem dM_above_0 : decode prog_7_method_8_code 0 = .ok (.iload_n 2, 1) := by decide +kernel
theorem dM_above_1 : decode prog_7_method_8_code 1 = .ok (.ifCond .ne 7, 3) := by decide +kernel
theorem dM_above_4 : decode prog_7_method_8_code 4 = .ok (.iconst (-1), 1) := by decide +kernel
theorem dM_above_5 : decode prog_7_method_8_code 5 = .ok (.goto 23, 3) := by decide +kernel
theorem dM_above_8 : decode prog_7_method_8_code 8 = .ok (.aload_n 0, 1) := by decide +kernel
theorem dM_above_9 : decode prog_7_method_8_code 9 = .ok (.iload_n 1, 1) := by decide +kernel
theorem dM_above_10 : decode prog_7_method_8_code 10 = .ok (.aload_n 0, 1) := by decide +kernel
theorem dM_above_11 : decode prog_7_method_8_code 11 = .ok (.getfield 32, 3) := by decide +kernel
theorem dM_above_14 : decode prog_7_method_8_code 14 = .ok (.bipush 64, 2) := by decide +kernel
theorem dM_above_16 : decode prog_7_method_8_code 16 = .ok (.iload_n 1, 1) := by decide +kernel
theorem dM_above_17 : decode prog_7_method_8_code 17 = .ok (.imul, 1) := by decide +kernel
theorem dM_above_18 : decode prog_7_method_8_code 18 = .ok (.iload_n 2, 1) := by decide +kernel
theorem dM_above_19 : decode prog_7_method_8_code 19 = .ok (.iconst 1, 1) := by decide +kernel
theorem dM_above_20 : decode prog_7_method_8_code 20 = .ok (.isub, 1) := by decide +kernel
theorem dM_above_21 : decode prog_7_method_8_code 21 = .ok (.iconst 2, 1) := by decide +kernel
theorem dM_above_22 : decode prog_7_method_8_code 22 = .ok (.idiv, 1) := by decide +kernel
theorem dM_above_23 : decode prog_7_method_8_code 23 = .ok (.iadd, 1) := by decide +kernel
theorem dM_above_24 : decode prog_7_method_8_code 24 = .ok (.iaload, 1) := by decide +kernel
theorem dM_above_25 : decode prog_7_method_8_code 25 = .ok (.invokevirtual 80, 3) := by decide +kernel
theorem dM_above_28 : decode prog_7_method_8_code 28 = .ok (.ireturn, 1) := by decide +kernel
def FM_above (h0 : Hp) (a0 : Nat) (p1 : Int32) (p2 : Int32) : Option Int32 :=
  jn (fun (y1 : Int32) =>
  some y1)
  (fun (j2 : Int32 → Option Int32) =>
  if p2 = 0 then
    (j2 (-1))
  else
    (gR h0 a0 5 10 (fun a3 =>
    gd (¬ 2 = 0) (
    ldI h0 a3 0 ((64 * p1) + ((p2 - 1) / 2)) (fun x4 =>
    gd (isO h0 a0 5 = true) ((FM_placeOf h0 a0 p1 x4).bind (fun r6 =>
    j2 r6)))))))
set_option maxRecDepth 100000 in
set_option maxHeartbeats 4000000 in
theorem mM_above (l : Launch) (h0 : Hp) (z0 : Nat) (a0 : Nat) (p1 : Int32) (p2 : Int32) (r : Int32) (hr : FM_above h0 a0 p1 p2 = some r) : vM True l yM_above (Cond.code yM_above prog_7_method_8_code 3 (some (.int)) :: gW) 1 [.ref a0, .int p1, .int p2] h0 z0 h0 z0 (some (.int r)) 0 0 := by
  refine vM.of (by decide) rfl (Nat.le_of_ble_eq_true rfl) ?_
  intro p e s m args below meth c D dA C hin2
  refine (?_ : vO p l e (vR 1 0 0) s m args below meth c D dA (vA h0 z0) 3 True (fun r : Int32 => MQ below (vQc True h0 z0 D dA h0 z0 (some (.int r))) args s 0 0 (vAr True h0 z0)) 0 0 h0 z0 [(0, .ref a0), (1, .int p1), (2, .int p2)] 0 [] (FM_above h0 a0 p1 p2)) r hr
  obtain ⟨Q, hQ⟩ : ∃ Q : Int32 → State → Prop, Q = (fun r : Int32 => MQ below (vQc True h0 z0 D dA h0 z0 (some (.int r))) args s 0 0 (vAr True h0 z0)) := ⟨_, rfl⟩
  rw [← hQ]
  unfold FM_above
  refine v_iload_n C dM_above_0 rfl 2 rfl ?_
  refine v_jn (fun (j : Int32 → Option Int32) => ∀ (y1 : Int32), vO p l e (vR 1 0 0) s m args below meth c D dA (vA h0 z0) 3 True Q 0 0 h0 z0 [] 28 [.int y1] (j y1)) ?_ (fun j2 Hj2 => ?_)
  · intro y1
    exact v_iret C dM_above_28 (by rw [hQ])
  · refine v_if_ne (tgt := 8) C dM_above_1 (by decide) ?_ ?_
    · refine v_aload_n C dM_above_8 rfl 0 rfl ?_
      refine v_iload_n C dM_above_9 rfl 1 rfl ?_
      refine v_aload_n C dM_above_10 rfl 0 rfl ?_
      refine v_getR C v_cl5 (by decide) in_5 rfl w_619 dM_above_11 (fun a3 => ?_)
      refine v_bipush (v := 64) C dM_above_14 (by decide) ?_
      refine v_iload_n C dM_above_16 rfl 1 rfl ?_
      refine v_imul C dM_above_17 ?_
      refine v_iload_n C dM_above_18 rfl 2 rfl ?_
      refine v_iconst (v := 1) C dM_above_19 (by decide) ?_
      refine v_isub C dM_above_20 ?_
      refine v_iconst (v := 2) C dM_above_21 (by decide) ?_
      refine v_idiv C dM_above_22 ?_
      refine v_iadd C dM_above_23 ?_
      refine v_iald C rfl dM_above_24 (fun x4 => ?_)
      refine v_gd fun hO5 => ?_
      refine v_bind fun r6 hr6 => ?_
      refine v_callV0 (N := 2) (As := [.int p1, .int x4]) (st := []) C (fun _ => trivial) (mM_placeOf l h0 z0 a0 p1 x4 r6 hr6) rfl w_727 w_53 (by decide +kernel) ⟨Nat.le_of_ble_eq_true rfl, Nat.le_of_ble_eq_true rfl⟩ rfl rfl (Nat.le_of_ble_eq_true rfl) ⟨Nat.zero_le _, Nat.zero_le _⟩ w_724 w_726 w_29 v_cl5 rfl hO5 dM_above_25 ?_
      refine v_lv (lv' := []) [] rfl ?_
      exact Hj2 r6
    · refine v_iconst (v := (-1)) C dM_above_4 (by decide) ?_
      refine v_goto (tgt := 28) C dM_above_5 (by decide) ?_
      refine v_lv (lv' := []) [] rfl ?_
      exact Hj2 (-1)
theorem dM_below_0 : decode prog_7_method_9_code 0 = .ok (.iconst (-1), 1) := by decide +kernel
theorem dM_below_1 : decode prog_7_method_9_code 1 = .ok (.istore_n 3, 1) := by decide +kernel
theorem dM_below_2 : decode prog_7_method_9_code 2 = .ok (.iconst 0, 1) := by decide +kernel
theorem dM_below_3 : decode prog_7_method_9_code 3 = .ok (.istore 4, 2) := by decide +kernel
theorem dM_below_5 : decode prog_7_method_9_code 5 = .ok (.iconst 2, 1) := by decide +kernel
theorem dM_below_6 : decode prog_7_method_9_code 6 = .ok (.iload 4, 2) := by decide +kernel
theorem dM_below_8 : decode prog_7_method_9_code 8 = .ok (.imul, 1) := by decide +kernel
theorem dM_below_9 : decode prog_7_method_9_code 9 = .ok (.iconst 2, 1) := by decide +kernel
theorem dM_below_10 : decode prog_7_method_9_code 10 = .ok (.iadd, 1) := by decide +kernel
theorem dM_below_11 : decode prog_7_method_9_code 11 = .ok (.aload_n 0, 1) := by decide +kernel
theorem dM_below_12 : decode prog_7_method_9_code 12 = .ok (.getfield 13, 3) := by decide +kernel
theorem dM_below_15 : decode prog_7_method_9_code 15 = .ok (.iload_n 1, 1) := by decide +kernel
theorem dM_below_16 : decode prog_7_method_9_code 16 = .ok (.iaload, 1) := by decide +kernel
theorem dM_below_17 : decode prog_7_method_9_code 17 = .ok (.if_icmp .ge 47, 3) := by decide +kernel
theorem dM_below_20 : decode prog_7_method_9_code 20 = .ok (.aload_n 0, 1) := by decide +kernel
theorem dM_below_21 : decode prog_7_method_9_code 21 = .ok (.getfield 32, 3) := by decide +kernel
theorem dM_below_24 : decode prog_7_method_9_code 24 = .ok (.bipush 64, 2) := by decide +kernel
theorem dM_below_26 : decode prog_7_method_9_code 26 = .ok (.iload_n 1, 1) := by decide +kernel
theorem dM_below_27 : decode prog_7_method_9_code 27 = .ok (.imul, 1) := by decide +kernel
theorem dM_below_28 : decode prog_7_method_9_code 28 = .ok (.iload 4, 2) := by decide +kernel
theorem dM_below_30 : decode prog_7_method_9_code 30 = .ok (.iadd, 1) := by decide +kernel
theorem dM_below_31 : decode prog_7_method_9_code 31 = .ok (.iaload, 1) := by decide +kernel
theorem dM_below_32 : decode prog_7_method_9_code 32 = .ok (.aload_n 0, 1) := by decide +kernel
theorem dM_below_33 : decode prog_7_method_9_code 33 = .ok (.getfield 23, 3) := by decide +kernel
theorem dM_below_36 : decode prog_7_method_9_code 36 = .ok (.sipush 129, 3) := by decide +kernel
theorem dM_below_39 : decode prog_7_method_9_code 39 = .ok (.iload_n 1, 1) := by decide +kernel
theorem dM_below_40 : decode prog_7_method_9_code 40 = .ok (.imul, 1) := by decide +kernel
theorem dM_below_41 : decode prog_7_method_9_code 41 = .ok (.iload_n 2, 1) := by decide +kernel
theorem dM_below_42 : decode prog_7_method_9_code 42 = .ok (.iadd, 1) := by decide +kernel
theorem dM_below_43 : decode prog_7_method_9_code 43 = .ok (.iaload, 1) := by decide +kernel
theorem dM_below_44 : decode prog_7_method_9_code 44 = .ok (.if_icmp .ne 12, 3) := by decide +kernel
theorem dM_below_47 : decode prog_7_method_9_code 47 = .ok (.iconst 2, 1) := by decide +kernel
theorem dM_below_48 : decode prog_7_method_9_code 48 = .ok (.iload 4, 2) := by decide +kernel
theorem dM_below_50 : decode prog_7_method_9_code 50 = .ok (.imul, 1) := by decide +kernel
theorem dM_below_51 : decode prog_7_method_9_code 51 = .ok (.iconst 1, 1) := by decide +kernel
theorem dM_below_52 : decode prog_7_method_9_code 52 = .ok (.iadd, 1) := by decide +kernel
theorem dM_below_53 : decode prog_7_method_9_code 53 = .ok (.goto 4, 3) := by decide +kernel
theorem dM_below_56 : decode prog_7_method_9_code 56 = .ok (.iload_n 3, 1) := by decide +kernel
theorem dM_below_57 : decode prog_7_method_9_code 57 = .ok (.istore_n 3, 1) := by decide +kernel
theorem dM_below_58 : decode prog_7_method_9_code 58 = .ok (.iinc 4 1, 3) := by decide +kernel
theorem dM_below_61 : decode prog_7_method_9_code 61 = .ok (.goto (-56), 3) := by decide +kernel
theorem dM_below_64 : decode prog_7_method_9_code 64 = .ok (.iload_n 3, 1) := by decide +kernel
theorem dM_below_65 : decode prog_7_method_9_code 65 = .ok (.ireturn, 1) := by decide +kernel
def LM_below_5 (h0 : Hp) (a0 : Nat) (p1 : Int32) (p2 : Int32) (K2 : Int32 → Option Int32) (rec5 : Int32 → Int32 → Option Int32) (x3 : Int32) (x4 : Int32) : Option Int32 :=
  gR h0 a0 5 4 (fun a6 =>
  ldI h0 a6 0 p1 (fun x7 =>
  if x7 ≤ ((2 * x4) + 2) then
    (K2 x3)
  else
    (gR h0 a0 5 10 (fun a8 =>
    ldI h0 a8 0 ((64 * p1) + x4) (fun x9 =>
    gR h0 a0 5 7 (fun a10 =>
    ldI h0 a10 0 ((129 * p1) + p2) (fun x11 =>
    jn (fun (y12 : Int32) =>
    rec5 y12 (x4 + 1))
    (fun (j13 : Int32 → Option Int32) =>
    if x9 = x11 then
      (j13 ((2 * x4) + 1))
    else
      (j13 x3)))))))))
def FM_below (h0 : Hp) (a0 : Nat) (p1 : Int32) (p2 : Int32) : Option Int32 :=
  jn (fun (x1 : Int32) =>
  some x1)
  (fun (K2 : Int32 → Option Int32) =>
  lpG (fun _ _ => none) fu (LM_below_5 h0 a0 p1 p2 K2) (-1) 0)
set_option maxRecDepth 100000 in
set_option maxHeartbeats 4000000 in
theorem mM_below (l : Launch) (h0 : Hp) (z0 : Nat) (a0 : Nat) (p1 : Int32) (p2 : Int32) (r : Int32) (hr : FM_below h0 a0 p1 p2 = some r) : vM True l yM_below (Cond.code yM_below prog_7_method_9_code 5 (some (.int)) :: gW) 0 [.ref a0, .int p1, .int p2] h0 z0 h0 z0 (some (.int r)) 0 0 := by
  refine vM.of (by decide) rfl (Nat.le_of_ble_eq_true rfl) ?_
  intro p e s m args below meth c D dA C hin2
  refine (?_ : vO p l e (vR 0 0 0) s m args below meth c D dA (vA h0 z0) 5 True (fun r : Int32 => MQ below (vQc True h0 z0 D dA h0 z0 (some (.int r))) args s 0 0 (vAr True h0 z0)) 0 0 h0 z0 [(0, .ref a0), (1, .int p1), (2, .int p2)] 0 [] (FM_below h0 a0 p1 p2)) r hr
  obtain ⟨Q, hQ⟩ : ∃ Q : Int32 → State → Prop, Q = (fun r : Int32 => MQ below (vQc True h0 z0 D dA h0 z0 (some (.int r))) args s 0 0 (vAr True h0 z0)) := ⟨_, rfl⟩
  rw [← hQ]
  unfold FM_below
  refine v_iconst (v := (-1)) C dM_below_0 (by decide) ?_
  refine v_istore_n (lv' := [(0, .ref a0), (1, .int p1), (2, .int p2), (3, .int (-1))]) C dM_below_1 rfl (by decide) [1, 2, 3, 0] rfl ?_
  refine v_iconst (v := 0) C dM_below_2 (by decide) ?_
  refine v_istore (lv' := [(0, .ref a0), (1, .int p1), (2, .int p2), (3, .int (-1)), (4, .int 0)]) C dM_below_3 (by decide) [1, 2, 3, 4, 0] rfl ?_
  refine v_jn (fun (j : Int32 → Option Int32) => ∀ (x1 : Int32), vO p l e (vR 0 0 0) s m args below meth c D dA (vA h0 z0) 5 True Q 0 0 h0 z0 [(3, .int x1)] 64 [] (j x1)) ?_ (fun K2 HK2 => ?_)
  · intro x1
    refine v_iload_n C dM_below_64 rfl 0 rfl ?_
    exact v_iret C dM_below_65 (by rw [hQ])
  · refine lpG_ind (bot := (fun _ _ => none)) (B := LM_below_5 h0 a0 p1 p2 K2) (fun (r : Int32 → Int32 → Option Int32) => ∀ (x3 : Int32), ∀ (x4 : Int32), vO p l e (vR 0 0 0) s m args below meth c D dA (vA h0 z0) 5 True Q 0 0 h0 z0 [(0, .ref a0), (1, .int p1), (2, .int p2), (3, .int x3), (4, .int x4)] 5 [] (r x3 x4)) ?_ ?_ fu (-1) 0
    · intro x3 x4
      exact v_none
    · intro rec5 Hrec5 x3 x4
      unfold LM_below_5
      refine v_iconst (v := 2) C dM_below_5 (by decide) ?_
      refine v_iload C dM_below_6 4 rfl ?_
      refine v_imul C dM_below_8 ?_
      refine v_iconst (v := 2) C dM_below_9 (by decide) ?_
      refine v_iadd C dM_below_10 ?_
      refine v_aload_n C dM_below_11 rfl 0 rfl ?_
      refine v_getR C v_cl5 (by decide) in_5 rfl w_613 dM_below_12 (fun a6 => ?_)
      refine v_iload_n C dM_below_15 rfl 1 rfl ?_
      refine v_iald C rfl dM_below_16 (fun x7 => ?_)
      refine v_icmp_ge (tgt := 64) C dM_below_17 (by decide) ?_ ?_
      · refine v_lv (lv' := [(3, .int x3)]) [3] rfl ?_
        exact HK2 x3
      · refine v_aload_n C dM_below_20 rfl 0 rfl ?_
        refine v_getR C v_cl5 (by decide) in_5 rfl w_619 dM_below_21 (fun a8 => ?_)
        refine v_bipush (v := 64) C dM_below_24 (by decide) ?_
        refine v_iload_n C dM_below_26 rfl 1 rfl ?_
        refine v_imul C dM_below_27 ?_
        refine v_iload C dM_below_28 4 rfl ?_
        refine v_iadd C dM_below_30 ?_
        refine v_iald C rfl dM_below_31 (fun x9 => ?_)
        refine v_aload_n C dM_below_32 rfl 0 rfl ?_
        refine v_getR C v_cl5 (by decide) in_5 rfl w_616 dM_below_33 (fun a10 => ?_)
        refine v_sipush (v := 129) C dM_below_36 (by decide) ?_
        refine v_iload_n C dM_below_39 rfl 1 rfl ?_
        refine v_imul C dM_below_40 ?_
        refine v_iload_n C dM_below_41 rfl 2 rfl ?_
        refine v_iadd C dM_below_42 ?_
        refine v_iald C rfl dM_below_43 (fun x11 => ?_)
        refine v_jn (fun (j : Int32 → Option Int32) => ∀ (y12 : Int32), vO p l e (vR 0 0 0) s m args below meth c D dA (vA h0 z0) 5 True Q 0 0 h0 z0 [(0, .ref a0), (1, .int p1), (2, .int p2), (4, .int x4)] 57 [.int y12] (j y12)) ?_ (fun j13 Hj13 => ?_)
        · intro y12
          refine v_istore_n (lv' := [(0, .ref a0), (1, .int p1), (2, .int p2), (3, .int y12), (4, .int x4)]) C dM_below_57 rfl (by decide) [1, 2, 3, 0, 4] rfl ?_
          refine v_iinc (v := (x4 + 1)) (lv' := [(0, .ref a0), (1, .int p1), (2, .int p2), (3, .int y12), (4, .int (x4 + 1))]) C dM_below_58 4 rfl rfl (by decide) [1, 2, 3, 4, 0] rfl ?_
          refine v_goto (tgt := 5) C dM_below_61 (by decide) ?_
          exact Hrec5 y12 (x4 + 1)
        · refine v_icmp_ne (tgt := 56) C dM_below_44 (by decide) ?_ ?_
          · refine v_iload_n C dM_below_56 rfl 3 rfl ?_
            refine v_lv (lv' := [(0, .ref a0), (1, .int p1), (2, .int p2), (4, .int x4)]) [0, 1, 2, 4] rfl ?_
            exact Hj13 x3
          · refine v_iconst (v := 2) C dM_below_47 (by decide) ?_
            refine v_iload C dM_below_48 4 rfl ?_
            refine v_imul C dM_below_50 ?_
            refine v_iconst (v := 1) C dM_below_51 (by decide) ?_
            refine v_iadd C dM_below_52 ?_
            refine v_goto (tgt := 57) C dM_below_53 (by decide) ?_
            refine v_lv (lv' := [(0, .ref a0), (1, .int p1), (2, .int p2), (4, .int x4)]) [0, 1, 2, 4] rfl ?_
            exact Hj13 ((2 * x4) + 1)
theorem dM_countAt_0 : decode prog_7_method_10_code 0 = .ok (.aload_n 0, 1) := by decide +kernel
theorem dM_countAt_1 : decode prog_7_method_10_code 1 = .ok (.getfield 26, 3) := by decide +kernel
theorem dM_countAt_4 : decode prog_7_method_10_code 4 = .ok (.sipush 129, 3) := by decide +kernel
theorem dM_countAt_7 : decode prog_7_method_10_code 7 = .ok (.iload_n 1, 1) := by decide +kernel
theorem dM_countAt_8 : decode prog_7_method_10_code 8 = .ok (.imul, 1) := by decide +kernel
theorem dM_countAt_9 : decode prog_7_method_10_code 9 = .ok (.aload_n 0, 1) := by decide +kernel
theorem dM_countAt_10 : decode prog_7_method_10_code 10 = .ok (.getfield 23, 3) := by decide +kernel
theorem dM_countAt_13 : decode prog_7_method_10_code 13 = .ok (.sipush 129, 3) := by decide +kernel
theorem dM_countAt_16 : decode prog_7_method_10_code 16 = .ok (.iload_n 1, 1) := by decide +kernel
theorem dM_countAt_17 : decode prog_7_method_10_code 17 = .ok (.imul, 1) := by decide +kernel
theorem dM_countAt_18 : decode prog_7_method_10_code 18 = .ok (.iload_n 2, 1) := by decide +kernel
theorem dM_countAt_19 : decode prog_7_method_10_code 19 = .ok (.iadd, 1) := by decide +kernel
theorem dM_countAt_20 : decode prog_7_method_10_code 20 = .ok (.iaload, 1) := by decide +kernel
theorem dM_countAt_21 : decode prog_7_method_10_code 21 = .ok (.iadd, 1) := by decide +kernel
theorem dM_countAt_22 : decode prog_7_method_10_code 22 = .ok (.iaload, 1) := by decide +kernel
theorem dM_countAt_23 : decode prog_7_method_10_code 23 = .ok (.ireturn, 1) := by decide +kernel
def FM_countAt (h0 : Hp) (a0 : Nat) (p1 : Int32) (p2 : Int32) : Option Int32 :=
  gR h0 a0 5 8 (fun a1 =>
  gR h0 a0 5 7 (fun a2 =>
  ldI h0 a2 0 ((129 * p1) + p2) (fun x3 =>
  ldI h0 a1 0 ((129 * p1) + x3) (fun x4 =>
  some x4))))
set_option maxRecDepth 100000 in
set_option maxHeartbeats 4000000 in
theorem mM_countAt (l : Launch) (h0 : Hp) (z0 : Nat) (a0 : Nat) (p1 : Int32) (p2 : Int32) (r : Int32) (hr : FM_countAt h0 a0 p1 p2 = some r) : vM True l yM_countAt (Cond.code yM_countAt prog_7_method_10_code 3 (some (.int)) :: gW) 0 [.ref a0, .int p1, .int p2] h0 z0 h0 z0 (some (.int r)) 0 0 := by
  refine vM.of (by decide) rfl (Nat.le_of_ble_eq_true rfl) ?_
  intro p e s m args below meth c D dA C hin2
  refine (?_ : vO p l e (vR 0 0 0) s m args below meth c D dA (vA h0 z0) 3 True (fun r : Int32 => MQ below (vQc True h0 z0 D dA h0 z0 (some (.int r))) args s 0 0 (vAr True h0 z0)) 0 0 h0 z0 [(0, .ref a0), (1, .int p1), (2, .int p2)] 0 [] (FM_countAt h0 a0 p1 p2)) r hr
  obtain ⟨Q, hQ⟩ : ∃ Q : Int32 → State → Prop, Q = (fun r : Int32 => MQ below (vQc True h0 z0 D dA h0 z0 (some (.int r))) args s 0 0 (vAr True h0 z0)) := ⟨_, rfl⟩
  rw [← hQ]
  unfold FM_countAt
  refine v_aload_n C dM_countAt_0 rfl 0 rfl ?_
  refine v_getR C v_cl5 (by decide) in_5 rfl w_617 dM_countAt_1 (fun a1 => ?_)
  refine v_sipush (v := 129) C dM_countAt_4 (by decide) ?_
  refine v_iload_n C dM_countAt_7 rfl 1 rfl ?_
  refine v_imul C dM_countAt_8 ?_
  refine v_aload_n C dM_countAt_9 rfl 0 rfl ?_
  refine v_getR C v_cl5 (by decide) in_5 rfl w_616 dM_countAt_10 (fun a2 => ?_)
  refine v_sipush (v := 129) C dM_countAt_13 (by decide) ?_
  refine v_iload_n C dM_countAt_16 rfl 1 rfl ?_
  refine v_imul C dM_countAt_17 ?_
  refine v_iload_n C dM_countAt_18 rfl 2 rfl ?_
  refine v_iadd C dM_countAt_19 ?_
  refine v_iald C rfl dM_countAt_20 (fun x3 => ?_)
  refine v_iadd C dM_countAt_21 ?_
  refine v_iald C rfl dM_countAt_22 (fun x4 => ?_)
  exact v_iret C dM_countAt_23 (by rw [hQ])
