theorem dA_escape_0 : decode prog_1_method_14_code 0 = .ok (.iload_n 1, 1) := by decide +kernel
theorem dA_escape_1 : decode prog_1_method_14_code 1 = .ok (.invokestatic 123, 3) := by decide +kernel
theorem dA_escape_4 : decode prog_1_method_14_code 4 = .ok (.ifCond .eq 10, 3) := by decide +kernel
theorem dA_escape_7 : decode prog_1_method_14_code 7 = .ok (.iload_n 2, 1) := by decide +kernel
theorem dA_escape_8 : decode prog_1_method_14_code 8 = .ok (.invokestatic 83, 3) := by decide +kernel
theorem dA_escape_11 : decode prog_1_method_14_code 11 = .ok (.ifCond .ne 6, 3) := by decide +kernel
theorem dA_escape_14 : decode prog_1_method_14_code 14 = .ok (.bipush (-2), 2) := by decide +kernel
theorem dA_escape_16 : decode prog_1_method_14_code 16 = .ok (.ireturn, 1) := by decide +kernel
theorem dA_escape_17 : decode prog_1_method_14_code 17 = .ok (.aload_n 0, 1) := by decide +kernel
theorem dA_escape_18 : decode prog_1_method_14_code 18 = .ok (.iload_n 1, 1) := by decide +kernel
theorem dA_escape_19 : decode prog_1_method_14_code 19 = .ok (.iload_n 2, 1) := by decide +kernel
theorem dA_escape_20 : decode prog_1_method_14_code 20 = .ok (.invokevirtual 126, 3) := by decide +kernel
theorem dA_escape_23 : decode prog_1_method_14_code 23 = .ok (.astore_n 3, 1) := by decide +kernel
theorem dA_escape_24 : decode prog_1_method_14_code 24 = .ok (.aload_n 3, 1) := by decide +kernel
theorem dA_escape_25 : decode prog_1_method_14_code 25 = .ok (.getfield 87, 3) := by decide +kernel
theorem dA_escape_28 : decode prog_1_method_14_code 28 = .ok (.ifCond .ne 14, 3) := by decide +kernel
theorem dA_escape_31 : decode prog_1_method_14_code 31 = .ok (.aload_n 3, 1) := by decide +kernel
theorem dA_escape_32 : decode prog_1_method_14_code 32 = .ok (.aload_n 3, 1) := by decide +kernel
theorem dA_escape_33 : decode prog_1_method_14_code 33 = .ok (.getfield 137, 3) := by decide +kernel
theorem dA_escape_36 : decode prog_1_method_14_code 36 = .ok (.invokevirtual 140, 3) := by decide +kernel
theorem dA_escape_39 : decode prog_1_method_14_code 39 = .ok (.goto 4, 3) := by decide +kernel
theorem dA_escape_42 : decode prog_1_method_14_code 42 = .ok (.iconst (-1), 1) := by decide +kernel
theorem dA_escape_43 : decode prog_1_method_14_code 43 = .ok (.ireturn, 1) := by decide +kernel
def FA_escape (h0 : Hp) (a0 : Nat) (p1 : Int32) (p2 : Int32) : Option Int32 :=
  (FA_isEnd h0 p1).bind (fun r1 =>
  jn (some (-2))
  (fun (j2 : Option Int32) =>
  if r1 = 0 then
    (j2)
  else
    ((FA_isTree h0 p2).bind (fun r3 =>
    if r3 = 0 then
      (j2)
    else
      (gd (isO h0 a0 4 = true) ((FA_treeOf h0 a0 p1 p2).bind (fun r5 =>
      gI h0 r5 3 8 (fun x6 =>
      jn (fun (y7 : Int32) =>
      some y7)
      (fun (j8 : Int32 → Option Int32) =>
      if x6 = 0 then
        (gI h0 r5 3 10 (fun x9 =>
        gd (isO h0 r5 3 = true) ((FT_depthOf h0 r5 x9).bind (fun r11 =>
        j8 r11))))
      else
        (j8 (-1)))))))))))
set_option maxRecDepth 100000 in
set_option maxHeartbeats 4000000 in
theorem mA_escape (l : Launch) (h0 : Hp) (z0 : Nat) (a0 : Nat) (p1 : Int32) (p2 : Int32) (r : Int32) (hr : FA_escape h0 a0 p1 p2 = some r) : vM True l yA_escape (Cond.code yA_escape prog_1_method_14_code 4 (some (.int)) :: gW) 1 [.ref a0, .int p1, .int p2] h0 z0 h0 z0 (some (.int r)) 0 0 := by
  refine vM.of (by decide) rfl (Nat.le_of_ble_eq_true rfl) ?_
  intro p e s m args below meth c D dA C hin2
  refine (?_ : vO p l e (vR 1 0 0) s m args below meth c D dA (vA h0 z0) 4 True (fun r : Int32 => MQ below (vQc True h0 z0 D dA h0 z0 (some (.int r))) args s 0 0 (vAr True h0 z0)) 0 0 h0 z0 [(0, .ref a0), (1, .int p1), (2, .int p2)] 0 [] (FA_escape h0 a0 p1 p2)) r hr
  obtain ⟨Q, hQ⟩ : ∃ Q : Int32 → State → Prop, Q = (fun r : Int32 => MQ below (vQc True h0 z0 D dA h0 z0 (some (.int r))) args s 0 0 (vAr True h0 z0)) := ⟨_, rfl⟩
  rw [← hQ]
  unfold FA_escape
  refine v_iload_n C dA_escape_0 rfl 1 rfl ?_
  refine v_bind fun r1 hr1 => ?_
  refine v_callS0 (N := 1) (As := [.int p1]) (st := []) C (fun _ => trivial) (mA_isEnd l h0 z0 p1 r1 hr1) rfl w_406 w_45 (by decide +kernel) ⟨Nat.le_of_ble_eq_true rfl, Nat.le_of_ble_eq_true rfl⟩ rfl rfl (Nat.le_of_ble_eq_true rfl) ⟨Nat.zero_le _, Nat.zero_le _⟩ w_404 w_405 dA_escape_1 ?_
  refine v_jn (fun (j : Option Int32) => vO p l e (vR 1 0 0) s m args below meth c D dA (vA h0 z0) 4 True Q 0 0 h0 z0 [] 14 [] j) ?_ (fun j2 Hj2 => ?_)
  · refine v_bipush (v := (-2)) C dA_escape_14 (by decide) ?_
    exact v_iret C dA_escape_16 (by rw [hQ])
  · refine v_if_eq (tgt := 14) C dA_escape_4 (by decide) ?_ ?_
    · refine v_lv (lv' := []) [] rfl ?_
      exact Hj2
    · refine v_iload_n C dA_escape_7 rfl 2 rfl ?_
      refine v_bind fun r3 hr3 => ?_
      refine v_callS0 (N := 1) (As := [.int p2]) (st := []) C (fun _ => trivial) (mA_isTree l h0 z0 p2 r3 hr3) rfl w_243 w_45 (by decide +kernel) ⟨Nat.le_of_ble_eq_true rfl, Nat.le_of_ble_eq_true rfl⟩ rfl rfl (Nat.le_of_ble_eq_true rfl) ⟨Nat.zero_le _, Nat.zero_le _⟩ w_241 w_242 dA_escape_8 ?_
      refine v_if_ne (tgt := 17) C dA_escape_11 (by decide) ?_ ?_
      · refine v_aload_n C dA_escape_17 rfl 0 rfl ?_
        refine v_iload_n C dA_escape_18 rfl 1 rfl ?_
        refine v_iload_n C dA_escape_19 rfl 2 rfl ?_
        refine v_gd fun hO4 => ?_
        refine v_bind fun r5 hr5 => ?_
        refine v_callV0 (N := 2) (As := [.int p1, .int p2]) (st := []) C (fun _ => trivial) (mA_treeOf l h0 z0 a0 p1 p2 r5 hr5) rfl w_410 w_45 (by decide +kernel) ⟨Nat.le_of_ble_eq_true rfl, Nat.le_of_ble_eq_true rfl⟩ rfl rfl (Nat.le_of_ble_eq_true rfl) ⟨Nat.zero_le _, Nat.zero_le _⟩ w_407 w_409 w_17 v_cl4 rfl hO4 dA_escape_20 ?_
        refine v_astore_n (lv' := [(3, .ref r5)]) C dA_escape_23 rfl (by decide) [0] rfl ?_
        refine v_aload_n C dA_escape_24 rfl 0 rfl ?_
        refine v_getIN C v_cl3 (by decide) in_3 rfl (nf_0 C.2.2.2.2.2.2.2.2.2) dA_escape_25 (fun x6 => ?_)
        refine v_jn (fun (j : Int32 → Option Int32) => ∀ (y7 : Int32), vO p l e (vR 1 0 0) s m args below meth c D dA (vA h0 z0) 4 True Q 0 0 h0 z0 [] 43 [.int y7] (j y7)) ?_ (fun j8 Hj8 => ?_)
        · intro y7
          exact v_iret C dA_escape_43 (by rw [hQ])
        · refine v_if_ne (tgt := 42) C dA_escape_28 (by decide) ?_ ?_
          · refine v_iconst (v := (-1)) C dA_escape_42 (by decide) ?_
            refine v_lv (lv' := []) [] rfl ?_
            exact Hj8 (-1)
          · refine v_aload_n C dA_escape_31 rfl 0 rfl ?_
            refine v_aload_n C dA_escape_32 rfl 0 rfl ?_
            refine v_getIN C v_cl3 (by decide) in_3 rfl (nf_2 C.2.2.2.2.2.2.2.2.2) dA_escape_33 (fun x9 => ?_)
            refine v_gd fun hO10 => ?_
            refine v_bind fun r11 hr11 => ?_
            refine v_callV0 (N := 1) (As := [.int x9]) (st := []) C (fun _ => trivial) (mT_depthOf l h0 z0 r5 x9 r11 hr11) rfl w_429 w_50 (by decide +kernel) ⟨Nat.le_of_ble_eq_true rfl, Nat.le_of_ble_eq_true rfl⟩ rfl rfl (Nat.le_of_ble_eq_true rfl) ⟨Nat.zero_le _, Nat.zero_le _⟩ w_426 w_427 w_428 v_cl3 rfl hO10 dA_escape_36 ?_
            refine v_goto (tgt := 43) C dA_escape_39 (by decide) ?_
            refine v_lv (lv' := []) [] rfl ?_
            exact Hj8 r11
      · refine v_lv (lv' := []) [] rfl ?_
        exact Hj2
theorem dA_halved_0 : decode prog_1_method_15_code 0 = .ok (.iload_n 1, 1) := by decide +kernel
theorem dA_halved_1 : decode prog_1_method_15_code 1 = .ok (.invokestatic 123, 3) := by decide +kernel
theorem dA_halved_4 : decode prog_1_method_15_code 4 = .ok (.ifCond .eq 22, 3) := by decide +kernel
theorem dA_halved_7 : decode prog_1_method_15_code 7 = .ok (.iload_n 2, 1) := by decide +kernel
theorem dA_halved_8 : decode prog_1_method_15_code 8 = .ok (.invokestatic 83, 3) := by decide +kernel
theorem dA_halved_11 : decode prog_1_method_15_code 11 = .ok (.ifCond .eq 15, 3) := by decide +kernel
theorem dA_halved_14 : decode prog_1_method_15_code 14 = .ok (.aload_n 0, 1) := by decide +kernel
theorem dA_halved_15 : decode prog_1_method_15_code 15 = .ok (.iload_n 1, 1) := by decide +kernel
theorem dA_halved_16 : decode prog_1_method_15_code 16 = .ok (.iload_n 2, 1) := by decide +kernel
theorem dA_halved_17 : decode prog_1_method_15_code 17 = .ok (.invokevirtual 126, 3) := by decide +kernel
theorem dA_halved_20 : decode prog_1_method_15_code 20 = .ok (.getfield 143, 3) := by decide +kernel
theorem dA_halved_23 : decode prog_1_method_15_code 23 = .ok (.goto 5, 3) := by decide +kernel
theorem dA_halved_26 : decode prog_1_method_15_code 26 = .ok (.bipush (-2), 2) := by decide +kernel
theorem dA_halved_28 : decode prog_1_method_15_code 28 = .ok (.ireturn, 1) := by decide +kernel
def FA_halved (h0 : Hp) (a0 : Nat) (p1 : Int32) (p2 : Int32) : Option Int32 :=
  (FA_isEnd h0 p1).bind (fun r1 =>
  jn (fun (y2 : Int32) =>
  some y2)
  (fun (j3 : Int32 → Option Int32) =>
  jn (j3 (-2))
  (fun (j4 : Option Int32) =>
  if r1 = 0 then
    (j4)
  else
    ((FA_isTree h0 p2).bind (fun r5 =>
    if r5 = 0 then
      (j4)
    else
      (gd (isO h0 a0 4 = true) ((FA_treeOf h0 a0 p1 p2).bind (fun r7 =>
      gI h0 r7 3 11 (fun x8 =>
      j3 x8)))))))))
set_option maxRecDepth 100000 in
set_option maxHeartbeats 4000000 in
theorem mA_halved (l : Launch) (h0 : Hp) (z0 : Nat) (a0 : Nat) (p1 : Int32) (p2 : Int32) (r : Int32) (hr : FA_halved h0 a0 p1 p2 = some r) : vM True l yA_halved (Cond.code yA_halved prog_1_method_15_code 3 (some (.int)) :: gW) 1 [.ref a0, .int p1, .int p2] h0 z0 h0 z0 (some (.int r)) 0 0 := by
  refine vM.of (by decide) rfl (Nat.le_of_ble_eq_true rfl) ?_
  intro p e s m args below meth c D dA C hin2
  refine (?_ : vO p l e (vR 1 0 0) s m args below meth c D dA (vA h0 z0) 3 True (fun r : Int32 => MQ below (vQc True h0 z0 D dA h0 z0 (some (.int r))) args s 0 0 (vAr True h0 z0)) 0 0 h0 z0 [(0, .ref a0), (1, .int p1), (2, .int p2)] 0 [] (FA_halved h0 a0 p1 p2)) r hr
  obtain ⟨Q, hQ⟩ : ∃ Q : Int32 → State → Prop, Q = (fun r : Int32 => MQ below (vQc True h0 z0 D dA h0 z0 (some (.int r))) args s 0 0 (vAr True h0 z0)) := ⟨_, rfl⟩
  rw [← hQ]
  unfold FA_halved
  refine v_iload_n C dA_halved_0 rfl 1 rfl ?_
  refine v_bind fun r1 hr1 => ?_
  refine v_callS0 (N := 1) (As := [.int p1]) (st := []) C (fun _ => trivial) (mA_isEnd l h0 z0 p1 r1 hr1) rfl w_406 w_45 (by decide +kernel) ⟨Nat.le_of_ble_eq_true rfl, Nat.le_of_ble_eq_true rfl⟩ rfl rfl (Nat.le_of_ble_eq_true rfl) ⟨Nat.zero_le _, Nat.zero_le _⟩ w_404 w_405 dA_halved_1 ?_
  refine v_jn (fun (j : Int32 → Option Int32) => ∀ (y2 : Int32), vO p l e (vR 1 0 0) s m args below meth c D dA (vA h0 z0) 3 True Q 0 0 h0 z0 [] 28 [.int y2] (j y2)) ?_ (fun j3 Hj3 => ?_)
  · intro y2
    exact v_iret C dA_halved_28 (by rw [hQ])
  · refine v_jn (fun (j : Option Int32) => vO p l e (vR 1 0 0) s m args below meth c D dA (vA h0 z0) 3 True Q 0 0 h0 z0 [] 26 [] j) ?_ (fun j4 Hj4 => ?_)
    · refine v_bipush (v := (-2)) C dA_halved_26 (by decide) ?_
      exact Hj3 (-2)
    · refine v_if_eq (tgt := 26) C dA_halved_4 (by decide) ?_ ?_
      · refine v_lv (lv' := []) [] rfl ?_
        exact Hj4
      · refine v_iload_n C dA_halved_7 rfl 2 rfl ?_
        refine v_bind fun r5 hr5 => ?_
        refine v_callS0 (N := 1) (As := [.int p2]) (st := []) C (fun _ => trivial) (mA_isTree l h0 z0 p2 r5 hr5) rfl w_243 w_45 (by decide +kernel) ⟨Nat.le_of_ble_eq_true rfl, Nat.le_of_ble_eq_true rfl⟩ rfl rfl (Nat.le_of_ble_eq_true rfl) ⟨Nat.zero_le _, Nat.zero_le _⟩ w_241 w_242 dA_halved_8 ?_
        refine v_if_eq (tgt := 26) C dA_halved_11 (by decide) ?_ ?_
        · refine v_lv (lv' := []) [] rfl ?_
          exact Hj4
        · refine v_aload_n C dA_halved_14 rfl 0 rfl ?_
          refine v_iload_n C dA_halved_15 rfl 1 rfl ?_
          refine v_iload_n C dA_halved_16 rfl 2 rfl ?_
          refine v_gd fun hO6 => ?_
          refine v_bind fun r7 hr7 => ?_
          refine v_callV0 (N := 2) (As := [.int p1, .int p2]) (st := []) C (fun _ => trivial) (mA_treeOf l h0 z0 a0 p1 p2 r7 hr7) rfl w_410 w_45 (by decide +kernel) ⟨Nat.le_of_ble_eq_true rfl, Nat.le_of_ble_eq_true rfl⟩ rfl rfl (Nat.le_of_ble_eq_true rfl) ⟨Nat.zero_le _, Nat.zero_le _⟩ w_407 w_409 w_17 v_cl4 rfl hO6 dA_halved_17 ?_
          refine v_getIN C v_cl3 (by decide) in_3 rfl (nf_3 C.2.2.2.2.2.2.2.2.2) dA_halved_20 (fun x8 => ?_)
          refine v_goto (tgt := 28) C dA_halved_23 (by decide) ?_
          refine v_lv (lv' := []) [] rfl ?_
          exact Hj3 x8
theorem dA_nodes_0 : decode prog_1_method_16_code 0 = .ok (.iload_n 1, 1) := by decide +kernel
theorem dA_nodes_1 : decode prog_1_method_16_code 1 = .ok (.invokestatic 123, 3) := by decide +kernel
theorem dA_nodes_4 : decode prog_1_method_16_code 4 = .ok (.ifCond .eq 22, 3) := by decide +kernel
theorem dA_nodes_7 : decode prog_1_method_16_code 7 = .ok (.iload_n 2, 1) := by decide +kernel
theorem dA_nodes_8 : decode prog_1_method_16_code 8 = .ok (.invokestatic 83, 3) := by decide +kernel
theorem dA_nodes_11 : decode prog_1_method_16_code 11 = .ok (.ifCond .eq 15, 3) := by decide +kernel
theorem dA_nodes_14 : decode prog_1_method_16_code 14 = .ok (.aload_n 0, 1) := by decide +kernel
theorem dA_nodes_15 : decode prog_1_method_16_code 15 = .ok (.iload_n 1, 1) := by decide +kernel
theorem dA_nodes_16 : decode prog_1_method_16_code 16 = .ok (.iload_n 2, 1) := by decide +kernel
theorem dA_nodes_17 : decode prog_1_method_16_code 17 = .ok (.invokevirtual 126, 3) := by decide +kernel
theorem dA_nodes_20 : decode prog_1_method_16_code 20 = .ok (.getfield 146, 3) := by decide +kernel
theorem dA_nodes_23 : decode prog_1_method_16_code 23 = .ok (.goto 5, 3) := by decide +kernel
theorem dA_nodes_26 : decode prog_1_method_16_code 26 = .ok (.bipush (-2), 2) := by decide +kernel
theorem dA_nodes_28 : decode prog_1_method_16_code 28 = .ok (.ireturn, 1) := by decide +kernel
def FA_nodes (h0 : Hp) (a0 : Nat) (p1 : Int32) (p2 : Int32) : Option Int32 :=
  (FA_isEnd h0 p1).bind (fun r1 =>
  jn (fun (y2 : Int32) =>
  some y2)
  (fun (j3 : Int32 → Option Int32) =>
  jn (j3 (-2))
  (fun (j4 : Option Int32) =>
  if r1 = 0 then
    (j4)
  else
    ((FA_isTree h0 p2).bind (fun r5 =>
    if r5 = 0 then
      (j4)
    else
      (gd (isO h0 a0 4 = true) ((FA_treeOf h0 a0 p1 p2).bind (fun r7 =>
      gI h0 r7 3 9 (fun x8 =>
      j3 x8)))))))))
set_option maxRecDepth 100000 in
set_option maxHeartbeats 4000000 in
theorem mA_nodes (l : Launch) (h0 : Hp) (z0 : Nat) (a0 : Nat) (p1 : Int32) (p2 : Int32) (r : Int32) (hr : FA_nodes h0 a0 p1 p2 = some r) : vM True l yA_nodes (Cond.code yA_nodes prog_1_method_16_code 3 (some (.int)) :: gW) 1 [.ref a0, .int p1, .int p2] h0 z0 h0 z0 (some (.int r)) 0 0 := by
  refine vM.of (by decide) rfl (Nat.le_of_ble_eq_true rfl) ?_
  intro p e s m args below meth c D dA C hin2
  refine (?_ : vO p l e (vR 1 0 0) s m args below meth c D dA (vA h0 z0) 3 True (fun r : Int32 => MQ below (vQc True h0 z0 D dA h0 z0 (some (.int r))) args s 0 0 (vAr True h0 z0)) 0 0 h0 z0 [(0, .ref a0), (1, .int p1), (2, .int p2)] 0 [] (FA_nodes h0 a0 p1 p2)) r hr
  obtain ⟨Q, hQ⟩ : ∃ Q : Int32 → State → Prop, Q = (fun r : Int32 => MQ below (vQc True h0 z0 D dA h0 z0 (some (.int r))) args s 0 0 (vAr True h0 z0)) := ⟨_, rfl⟩
  rw [← hQ]
  unfold FA_nodes
  refine v_iload_n C dA_nodes_0 rfl 1 rfl ?_
  refine v_bind fun r1 hr1 => ?_
  refine v_callS0 (N := 1) (As := [.int p1]) (st := []) C (fun _ => trivial) (mA_isEnd l h0 z0 p1 r1 hr1) rfl w_406 w_45 (by decide +kernel) ⟨Nat.le_of_ble_eq_true rfl, Nat.le_of_ble_eq_true rfl⟩ rfl rfl (Nat.le_of_ble_eq_true rfl) ⟨Nat.zero_le _, Nat.zero_le _⟩ w_404 w_405 dA_nodes_1 ?_
  refine v_jn (fun (j : Int32 → Option Int32) => ∀ (y2 : Int32), vO p l e (vR 1 0 0) s m args below meth c D dA (vA h0 z0) 3 True Q 0 0 h0 z0 [] 28 [.int y2] (j y2)) ?_ (fun j3 Hj3 => ?_)
  · intro y2
    exact v_iret C dA_nodes_28 (by rw [hQ])
  · refine v_jn (fun (j : Option Int32) => vO p l e (vR 1 0 0) s m args below meth c D dA (vA h0 z0) 3 True Q 0 0 h0 z0 [] 26 [] j) ?_ (fun j4 Hj4 => ?_)
    · refine v_bipush (v := (-2)) C dA_nodes_26 (by decide) ?_
      exact Hj3 (-2)
    · refine v_if_eq (tgt := 26) C dA_nodes_4 (by decide) ?_ ?_
      · refine v_lv (lv' := []) [] rfl ?_
        exact Hj4
      · refine v_iload_n C dA_nodes_7 rfl 2 rfl ?_
        refine v_bind fun r5 hr5 => ?_
        refine v_callS0 (N := 1) (As := [.int p2]) (st := []) C (fun _ => trivial) (mA_isTree l h0 z0 p2 r5 hr5) rfl w_243 w_45 (by decide +kernel) ⟨Nat.le_of_ble_eq_true rfl, Nat.le_of_ble_eq_true rfl⟩ rfl rfl (Nat.le_of_ble_eq_true rfl) ⟨Nat.zero_le _, Nat.zero_le _⟩ w_241 w_242 dA_nodes_8 ?_
        refine v_if_eq (tgt := 26) C dA_nodes_11 (by decide) ?_ ?_
        · refine v_lv (lv' := []) [] rfl ?_
          exact Hj4
        · refine v_aload_n C dA_nodes_14 rfl 0 rfl ?_
          refine v_iload_n C dA_nodes_15 rfl 1 rfl ?_
          refine v_iload_n C dA_nodes_16 rfl 2 rfl ?_
          refine v_gd fun hO6 => ?_
          refine v_bind fun r7 hr7 => ?_
          refine v_callV0 (N := 2) (As := [.int p1, .int p2]) (st := []) C (fun _ => trivial) (mA_treeOf l h0 z0 a0 p1 p2 r7 hr7) rfl w_410 w_45 (by decide +kernel) ⟨Nat.le_of_ble_eq_true rfl, Nat.le_of_ble_eq_true rfl⟩ rfl rfl (Nat.le_of_ble_eq_true rfl) ⟨Nat.zero_le _, Nat.zero_le _⟩ w_407 w_409 w_17 v_cl4 rfl hO6 dA_nodes_17 ?_
          refine v_getIN C v_cl3 (by decide) in_3 rfl (nf_4 C.2.2.2.2.2.2.2.2.2) dA_nodes_20 (fun x8 => ?_)
          refine v_goto (tgt := 28) C dA_nodes_23 (by decide) ?_
          refine v_lv (lv' := []) [] rfl ?_
          exact Hj3 x8
theorem dT_areChildrenWell_0 : decode prog_5_method_22_code 0 = .ok (.aload_n 0, 1) := by decide +kernel
theorem dT_areChildrenWell_1 : decode prog_5_method_22_code 1 = .ok (.getfield 45, 3) := by decide +kernel
theorem dT_areChildrenWell_4 : decode prog_5_method_22_code 4 = .ok (.iload_n 1, 1) := by decide +kernel
theorem dT_areChildrenWell_5 : decode prog_5_method_22_code 5 = .ok (.iaload, 1) := by decide +kernel
theorem dT_areChildrenWell_6 : decode prog_5_method_22_code 6 = .ok (.iconst (-1), 1) := by decide +kernel
theorem dT_areChildrenWell_7 : decode prog_5_method_22_code 7 = .ok (.if_icmp .eq 33, 3) := by decide +kernel
theorem dT_areChildrenWell_10 : decode prog_5_method_22_code 10 = .ok (.aload_n 0, 1) := by decide +kernel
theorem dT_areChildrenWell_11 : decode prog_5_method_22_code 11 = .ok (.getfield 42, 3) := by decide +kernel
theorem dT_areChildrenWell_14 : decode prog_5_method_22_code 14 = .ok (.aload_n 0, 1) := by decide +kernel
theorem dT_areChildrenWell_15 : decode prog_5_method_22_code 15 = .ok (.getfield 45, 3) := by decide +kernel
theorem dT_areChildrenWell_18 : decode prog_5_method_22_code 18 = .ok (.iload_n 1, 1) := by decide +kernel
theorem dT_areChildrenWell_19 : decode prog_5_method_22_code 19 = .ok (.iaload, 1) := by decide +kernel
theorem dT_areChildrenWell_20 : decode prog_5_method_22_code 20 = .ok (.iaload, 1) := by decide +kernel
theorem dT_areChildrenWell_21 : decode prog_5_method_22_code 21 = .ok (.iload_n 1, 1) := by decide +kernel
theorem dT_areChildrenWell_22 : decode prog_5_method_22_code 22 = .ok (.if_icmp .ne 22, 3) := by decide +kernel
theorem dT_areChildrenWell_25 : decode prog_5_method_22_code 25 = .ok (.aload_n 0, 1) := by decide +kernel
theorem dT_areChildrenWell_26 : decode prog_5_method_22_code 26 = .ok (.getfield 42, 3) := by decide +kernel
theorem dT_areChildrenWell_29 : decode prog_5_method_22_code 29 = .ok (.aload_n 0, 1) := by decide +kernel
theorem dT_areChildrenWell_30 : decode prog_5_method_22_code 30 = .ok (.getfield 48, 3) := by decide +kernel
theorem dT_areChildrenWell_33 : decode prog_5_method_22_code 33 = .ok (.iload_n 1, 1) := by decide +kernel
theorem dT_areChildrenWell_34 : decode prog_5_method_22_code 34 = .ok (.iaload, 1) := by decide +kernel
theorem dT_areChildrenWell_35 : decode prog_5_method_22_code 35 = .ok (.iaload, 1) := by decide +kernel
theorem dT_areChildrenWell_36 : decode prog_5_method_22_code 36 = .ok (.iload_n 1, 1) := by decide +kernel
theorem dT_areChildrenWell_37 : decode prog_5_method_22_code 37 = .ok (.if_icmp .ne 7, 3) := by decide +kernel
theorem dT_areChildrenWell_40 : decode prog_5_method_22_code 40 = .ok (.iconst 1, 1) := by decide +kernel
theorem dT_areChildrenWell_41 : decode prog_5_method_22_code 41 = .ok (.goto 4, 3) := by decide +kernel
theorem dT_areChildrenWell_44 : decode prog_5_method_22_code 44 = .ok (.iconst 0, 1) := by decide +kernel
theorem dT_areChildrenWell_45 : decode prog_5_method_22_code 45 = .ok (.ireturn, 1) := by decide +kernel
def FT_areChildrenWell (h0 : Hp) (a0 : Nat) (p1 : Int32) : Option Int32 :=
  gR h0 a0 3 5 (fun a1 =>
  ldI h0 a1 0 p1 (fun x2 =>
  jn (fun (y3 : Int32) =>
  gd (y3 = 0 ∨ y3 = 1) (some y3))
  (fun (j4 : Int32 → Option Int32) =>
  jn (j4 1)
  (fun (j5 : Option Int32) =>
  if x2 = (-1) then
    (j5)
  else
    (gR h0 a0 3 4 (fun a6 =>
    gR h0 a0 3 5 (fun a7 =>
    ldI h0 a7 0 p1 (fun x8 =>
    ldI h0 a6 0 x8 (fun x9 =>
    jn (j4 0)
    (fun (j10 : Option Int32) =>
    if x9 = p1 then
      (gR h0 a0 3 4 (fun a11 =>
      gR h0 a0 3 6 (fun a12 =>
      ldI h0 a12 0 p1 (fun x13 =>
      ldI h0 a11 0 x13 (fun x14 =>
      if x14 = p1 then
        (j5)
      else
        (j10))))))
    else
      (j10)))))))))))
set_option maxRecDepth 100000 in
set_option maxHeartbeats 4000000 in
theorem mT_areChildrenWell (l : Launch) (h0 : Hp) (z0 : Nat) (a0 : Nat) (p1 : Int32) (r : Int32) (hr : FT_areChildrenWell h0 a0 p1 = some r) : vM True l yT_areChildrenWell (Cond.code yT_areChildrenWell prog_5_method_22_code 2 (some (.boolean)) :: gW) 0 [.ref a0, .int p1] h0 z0 h0 z0 (some (.int r)) 0 0 := by
  refine vM.of (by decide) rfl (Nat.le_of_ble_eq_true rfl) ?_
  intro p e s m args below meth c D dA C hin2
  refine (?_ : vO p l e (vR 0 0 0) s m args below meth c D dA (vA h0 z0) 2 True (fun r : Int32 => MQ below (vQc True h0 z0 D dA h0 z0 (some (.int r))) args s 0 0 (vAr True h0 z0)) 0 0 h0 z0 [(0, .ref a0), (1, .int p1)] 0 [] (FT_areChildrenWell h0 a0 p1)) r hr
  obtain ⟨Q, hQ⟩ : ∃ Q : Int32 → State → Prop, Q = (fun r : Int32 => MQ below (vQc True h0 z0 D dA h0 z0 (some (.int r))) args s 0 0 (vAr True h0 z0)) := ⟨_, rfl⟩
  rw [← hQ]
  unfold FT_areChildrenWell
  refine v_aload_n C dT_areChildrenWell_0 rfl 0 rfl ?_
  refine v_getR C v_cl3 (by decide) in_3 rfl w_162 dT_areChildrenWell_1 (fun a1 => ?_)
  refine v_iload_n C dT_areChildrenWell_4 rfl 1 rfl ?_
  refine v_iald C rfl dT_areChildrenWell_5 (fun x2 => ?_)
  refine v_iconst (v := (-1)) C dT_areChildrenWell_6 (by decide) ?_
  refine v_jn (fun (j : Int32 → Option Int32) => ∀ (y3 : Int32), vO p l e (vR 0 0 0) s m args below meth c D dA (vA h0 z0) 2 True Q 0 0 h0 z0 [] 45 [.int y3] (j y3)) ?_ (fun j4 Hj4 => ?_)
  · intro y3
    exact v_zret C dT_areChildrenWell_45 (by rw [hQ])
  · refine v_jn (fun (j : Option Int32) => vO p l e (vR 0 0 0) s m args below meth c D dA (vA h0 z0) 2 True Q 0 0 h0 z0 [] 40 [] j) ?_ (fun j5 Hj5 => ?_)
    · refine v_iconst (v := 1) C dT_areChildrenWell_40 (by decide) ?_
      refine v_goto (tgt := 45) C dT_areChildrenWell_41 (by decide) ?_
      exact Hj4 1
    · refine v_icmp_eq (tgt := 40) C dT_areChildrenWell_7 (by decide) ?_ ?_
      · refine v_lv (lv' := []) [] rfl ?_
        exact Hj5
      · refine v_aload_n C dT_areChildrenWell_10 rfl 0 rfl ?_
        refine v_getR C v_cl3 (by decide) in_3 rfl w_160 dT_areChildrenWell_11 (fun a6 => ?_)
        refine v_aload_n C dT_areChildrenWell_14 rfl 0 rfl ?_
        refine v_getR C v_cl3 (by decide) in_3 rfl w_162 dT_areChildrenWell_15 (fun a7 => ?_)
        refine v_iload_n C dT_areChildrenWell_18 rfl 1 rfl ?_
        refine v_iald C rfl dT_areChildrenWell_19 (fun x8 => ?_)
        refine v_iald C rfl dT_areChildrenWell_20 (fun x9 => ?_)
        refine v_iload_n C dT_areChildrenWell_21 rfl 1 rfl ?_
        refine v_jn (fun (j : Option Int32) => vO p l e (vR 0 0 0) s m args below meth c D dA (vA h0 z0) 2 True Q 0 0 h0 z0 [] 44 [] j) ?_ (fun j10 Hj10 => ?_)
        · refine v_iconst (v := 0) C dT_areChildrenWell_44 (by decide) ?_
          exact Hj4 0
        · refine v_icmp_ne (tgt := 44) C dT_areChildrenWell_22 (by decide) ?_ ?_
          · refine v_lv (lv' := []) [] rfl ?_
            exact Hj10
          · refine v_aload_n C dT_areChildrenWell_25 rfl 0 rfl ?_
            refine v_getR C v_cl3 (by decide) in_3 rfl w_160 dT_areChildrenWell_26 (fun a11 => ?_)
            refine v_aload_n C dT_areChildrenWell_29 rfl 0 rfl ?_
            refine v_getR C v_cl3 (by decide) in_3 rfl w_164 dT_areChildrenWell_30 (fun a12 => ?_)
            refine v_iload_n C dT_areChildrenWell_33 rfl 1 rfl ?_
            refine v_iald C rfl dT_areChildrenWell_34 (fun x13 => ?_)
            refine v_iald C rfl dT_areChildrenWell_35 (fun x14 => ?_)
            refine v_iload_n C dT_areChildrenWell_36 rfl 1 rfl ?_
            refine v_icmp_ne (tgt := 44) C dT_areChildrenWell_37 (by decide) ?_ ?_
            · refine v_lv (lv' := []) [] rfl ?_
              exact Hj10
            · refine v_lv (lv' := []) [] rfl ?_
              exact Hj5
theorem dT_isOnlyLeafOfItsSign_0 : decode prog_5_method_21_code 0 = .ok (.aload_n 0, 1) := by decide +kernel
theorem dT_isOnlyLeafOfItsSign_1 : decode prog_5_method_21_code 1 = .ok (.getfield 39, 3) := by decide +kernel
theorem dT_isOnlyLeafOfItsSign_4 : decode prog_5_method_21_code 4 = .ok (.iload_n 1, 1) := by decide +kernel
theorem dT_isOnlyLeafOfItsSign_5 : decode prog_5_method_21_code 5 = .ok (.iaload, 1) := by decide +kernel
theorem dT_isOnlyLeafOfItsSign_6 : decode prog_5_method_21_code 6 = .ok (.ifCond .lt 18, 3) := by decide +kernel
theorem dT_isOnlyLeafOfItsSign_9 : decode prog_5_method_21_code 9 = .ok (.aload_n 0, 1) := by decide +kernel
theorem dT_isOnlyLeafOfItsSign_10 : decode prog_5_method_21_code 10 = .ok (.getfield 51, 3) := by decide +kernel
theorem dT_isOnlyLeafOfItsSign_13 : decode prog_5_method_21_code 13 = .ok (.aload_n 0, 1) := by decide +kernel
theorem dT_isOnlyLeafOfItsSign_14 : decode prog_5_method_21_code 14 = .ok (.getfield 39, 3) := by decide +kernel
theorem dT_isOnlyLeafOfItsSign_17 : decode prog_5_method_21_code 17 = .ok (.iload_n 1, 1) := by decide +kernel
theorem dT_isOnlyLeafOfItsSign_18 : decode prog_5_method_21_code 18 = .ok (.iaload, 1) := by decide +kernel
theorem dT_isOnlyLeafOfItsSign_19 : decode prog_5_method_21_code 19 = .ok (.iaload, 1) := by decide +kernel
theorem dT_isOnlyLeafOfItsSign_20 : decode prog_5_method_21_code 20 = .ok (.iload_n 1, 1) := by decide +kernel
theorem dT_isOnlyLeafOfItsSign_21 : decode prog_5_method_21_code 21 = .ok (.if_icmp .ne 7, 3) := by decide +kernel
theorem dT_isOnlyLeafOfItsSign_24 : decode prog_5_method_21_code 24 = .ok (.iconst 1, 1) := by decide +kernel
theorem dT_isOnlyLeafOfItsSign_25 : decode prog_5_method_21_code 25 = .ok (.goto 4, 3) := by decide +kernel
theorem dT_isOnlyLeafOfItsSign_28 : decode prog_5_method_21_code 28 = .ok (.iconst 0, 1) := by decide +kernel
theorem dT_isOnlyLeafOfItsSign_29 : decode prog_5_method_21_code 29 = .ok (.ireturn, 1) := by decide +kernel
def FT_isOnlyLeafOfItsSign (h0 : Hp) (a0 : Nat) (p1 : Int32) : Option Int32 :=
  gR h0 a0 3 3 (fun a1 =>
  ldI h0 a1 0 p1 (fun x2 =>
  jn (fun (y3 : Int32) =>
  gd (y3 = 0 ∨ y3 = 1) (some y3))
  (fun (j4 : Int32 → Option Int32) =>
  jn (j4 1)
  (fun (j5 : Option Int32) =>
  if x2 < 0 then
    (j5)
  else
    (gR h0 a0 3 7 (fun a6 =>
    gR h0 a0 3 3 (fun a7 =>
    ldI h0 a7 0 p1 (fun x8 =>
    ldI h0 a6 0 x8 (fun x9 =>
    if x9 = p1 then
      (j5)
    else
      (j4 0))))))))))
set_option maxRecDepth 100000 in
set_option maxHeartbeats 4000000 in
theorem mT_isOnlyLeafOfItsSign (l : Launch) (h0 : Hp) (z0 : Nat) (a0 : Nat) (p1 : Int32) (r : Int32) (hr : FT_isOnlyLeafOfItsSign h0 a0 p1 = some r) : vM True l yT_isOnlyLeafOfItsSign (Cond.code yT_isOnlyLeafOfItsSign prog_5_method_21_code 2 (some (.boolean)) :: gW) 0 [.ref a0, .int p1] h0 z0 h0 z0 (some (.int r)) 0 0 := by
  refine vM.of (by decide) rfl (Nat.le_of_ble_eq_true rfl) ?_
  intro p e s m args below meth c D dA C hin2
  refine (?_ : vO p l e (vR 0 0 0) s m args below meth c D dA (vA h0 z0) 2 True (fun r : Int32 => MQ below (vQc True h0 z0 D dA h0 z0 (some (.int r))) args s 0 0 (vAr True h0 z0)) 0 0 h0 z0 [(0, .ref a0), (1, .int p1)] 0 [] (FT_isOnlyLeafOfItsSign h0 a0 p1)) r hr
  obtain ⟨Q, hQ⟩ : ∃ Q : Int32 → State → Prop, Q = (fun r : Int32 => MQ below (vQc True h0 z0 D dA h0 z0 (some (.int r))) args s 0 0 (vAr True h0 z0)) := ⟨_, rfl⟩
  rw [← hQ]
  unfold FT_isOnlyLeafOfItsSign
  refine v_aload_n C dT_isOnlyLeafOfItsSign_0 rfl 0 rfl ?_
  refine v_getR C v_cl3 (by decide) in_3 rfl w_158 dT_isOnlyLeafOfItsSign_1 (fun a1 => ?_)
  refine v_iload_n C dT_isOnlyLeafOfItsSign_4 rfl 1 rfl ?_
  refine v_iald C rfl dT_isOnlyLeafOfItsSign_5 (fun x2 => ?_)
  refine v_jn (fun (j : Int32 → Option Int32) => ∀ (y3 : Int32), vO p l e (vR 0 0 0) s m args below meth c D dA (vA h0 z0) 2 True Q 0 0 h0 z0 [] 29 [.int y3] (j y3)) ?_ (fun j4 Hj4 => ?_)
  · intro y3
    exact v_zret C dT_isOnlyLeafOfItsSign_29 (by rw [hQ])
  · refine v_jn (fun (j : Option Int32) => vO p l e (vR 0 0 0) s m args below meth c D dA (vA h0 z0) 2 True Q 0 0 h0 z0 [] 24 [] j) ?_ (fun j5 Hj5 => ?_)
    · refine v_iconst (v := 1) C dT_isOnlyLeafOfItsSign_24 (by decide) ?_
      refine v_goto (tgt := 29) C dT_isOnlyLeafOfItsSign_25 (by decide) ?_
      exact Hj4 1
    · refine v_if_lt (tgt := 24) C dT_isOnlyLeafOfItsSign_6 (by decide) ?_ ?_
      · refine v_lv (lv' := []) [] rfl ?_
        exact Hj5
      · refine v_aload_n C dT_isOnlyLeafOfItsSign_9 rfl 0 rfl ?_
        refine v_getR C v_cl3 (by decide) in_3 rfl w_165 dT_isOnlyLeafOfItsSign_10 (fun a6 => ?_)
        refine v_aload_n C dT_isOnlyLeafOfItsSign_13 rfl 0 rfl ?_
        refine v_getR C v_cl3 (by decide) in_3 rfl w_158 dT_isOnlyLeafOfItsSign_14 (fun a7 => ?_)
        refine v_iload_n C dT_isOnlyLeafOfItsSign_17 rfl 1 rfl ?_
        refine v_iald C rfl dT_isOnlyLeafOfItsSign_18 (fun x8 => ?_)
        refine v_iald C rfl dT_isOnlyLeafOfItsSign_19 (fun x9 => ?_)
        refine v_iload_n C dT_isOnlyLeafOfItsSign_20 rfl 1 rfl ?_
        refine v_icmp_ne (tgt := 28) C dT_isOnlyLeafOfItsSign_21 (by decide) ?_ ?_
        · refine v_iconst (v := 0) C dT_isOnlyLeafOfItsSign_28 (by decide) ?_
          refine v_lv (lv' := []) [] rfl ?_
          exact Hj4 0
        · refine v_lv (lv' := []) [] rfl ?_
          exact Hj5
theorem dT_isCountWell_0 : decode prog_5_method_23_code 0 = .ok (.iload_n 1, 1) := by decide +kernel
theorem dT_isCountWell_1 : decode prog_5_method_23_code 1 = .ok (.ifCond .le 22, 3) := by decide +kernel
theorem dT_isCountWell_4 : decode prog_5_method_23_code 4 = .ok (.aload_n 0, 1) := by decide +kernel
theorem dT_isCountWell_5 : decode prog_5_method_23_code 5 = .ok (.getfield 35, 3) := by decide +kernel
theorem dT_isCountWell_8 : decode prog_5_method_23_code 8 = .ok (.iload_n 1, 1) := by decide +kernel
theorem dT_isCountWell_9 : decode prog_5_method_23_code 9 = .ok (.iaload, 1) := by decide +kernel
theorem dT_isCountWell_10 : decode prog_5_method_23_code 10 = .ok (.aload_n 0, 1) := by decide +kernel
theorem dT_isCountWell_11 : decode prog_5_method_23_code 11 = .ok (.getfield 35, 3) := by decide +kernel
theorem dT_isCountWell_14 : decode prog_5_method_23_code 14 = .ok (.iload_n 1, 1) := by decide +kernel
theorem dT_isCountWell_15 : decode prog_5_method_23_code 15 = .ok (.iconst 1, 1) := by decide +kernel
theorem dT_isCountWell_16 : decode prog_5_method_23_code 16 = .ok (.isub, 1) := by decide +kernel
theorem dT_isCountWell_17 : decode prog_5_method_23_code 17 = .ok (.iaload, 1) := by decide +kernel
theorem dT_isCountWell_18 : decode prog_5_method_23_code 18 = .ok (.if_icmp .le 5, 3) := by decide +kernel
theorem dT_isCountWell_21 : decode prog_5_method_23_code 21 = .ok (.iconst 0, 1) := by decide +kernel
theorem dT_isCountWell_22 : decode prog_5_method_23_code 22 = .ok (.ireturn, 1) := by decide +kernel
theorem dT_isCountWell_23 : decode prog_5_method_23_code 23 = .ok (.aload_n 0, 1) := by decide +kernel
theorem dT_isCountWell_24 : decode prog_5_method_23_code 24 = .ok (.getfield 45, 3) := by decide +kernel
theorem dT_isCountWell_27 : decode prog_5_method_23_code 27 = .ok (.iload_n 1, 1) := by decide +kernel
theorem dT_isCountWell_28 : decode prog_5_method_23_code 28 = .ok (.iaload, 1) := by decide +kernel
theorem dT_isCountWell_29 : decode prog_5_method_23_code 29 = .ok (.iconst (-1), 1) := by decide +kernel
theorem dT_isCountWell_30 : decode prog_5_method_23_code 30 = .ok (.if_icmp .eq 35, 3) := by decide +kernel
theorem dT_isCountWell_33 : decode prog_5_method_23_code 33 = .ok (.aload_n 0, 1) := by decide +kernel
theorem dT_isCountWell_34 : decode prog_5_method_23_code 34 = .ok (.getfield 35, 3) := by decide +kernel
theorem dT_isCountWell_37 : decode prog_5_method_23_code 37 = .ok (.iload_n 1, 1) := by decide +kernel
theorem dT_isCountWell_38 : decode prog_5_method_23_code 38 = .ok (.iaload, 1) := by decide +kernel
theorem dT_isCountWell_39 : decode prog_5_method_23_code 39 = .ok (.aload_n 0, 1) := by decide +kernel
theorem dT_isCountWell_40 : decode prog_5_method_23_code 40 = .ok (.getfield 35, 3) := by decide +kernel
theorem dT_isCountWell_43 : decode prog_5_method_23_code 43 = .ok (.aload_n 0, 1) := by decide +kernel
theorem dT_isCountWell_44 : decode prog_5_method_23_code 44 = .ok (.getfield 45, 3) := by decide +kernel
theorem dT_isCountWell_47 : decode prog_5_method_23_code 47 = .ok (.iload_n 1, 1) := by decide +kernel
theorem dT_isCountWell_48 : decode prog_5_method_23_code 48 = .ok (.iaload, 1) := by decide +kernel
theorem dT_isCountWell_49 : decode prog_5_method_23_code 49 = .ok (.iaload, 1) := by decide +kernel
theorem dT_isCountWell_50 : decode prog_5_method_23_code 50 = .ok (.aload_n 0, 1) := by decide +kernel
theorem dT_isCountWell_51 : decode prog_5_method_23_code 51 = .ok (.getfield 35, 3) := by decide +kernel
theorem dT_isCountWell_54 : decode prog_5_method_23_code 54 = .ok (.aload_n 0, 1) := by decide +kernel
theorem dT_isCountWell_55 : decode prog_5_method_23_code 55 = .ok (.getfield 48, 3) := by decide +kernel
theorem dT_isCountWell_58 : decode prog_5_method_23_code 58 = .ok (.iload_n 1, 1) := by decide +kernel
theorem dT_isCountWell_59 : decode prog_5_method_23_code 59 = .ok (.iaload, 1) := by decide +kernel
theorem dT_isCountWell_60 : decode prog_5_method_23_code 60 = .ok (.iaload, 1) := by decide +kernel
theorem dT_isCountWell_61 : decode prog_5_method_23_code 61 = .ok (.iadd, 1) := by decide +kernel
theorem dT_isCountWell_62 : decode prog_5_method_23_code 62 = .ok (.if_icmp .ne 7, 3) := by decide +kernel
theorem dT_isCountWell_65 : decode prog_5_method_23_code 65 = .ok (.iconst 1, 1) := by decide +kernel
theorem dT_isCountWell_66 : decode prog_5_method_23_code 66 = .ok (.goto 4, 3) := by decide +kernel
theorem dT_isCountWell_69 : decode prog_5_method_23_code 69 = .ok (.iconst 0, 1) := by decide +kernel
theorem dT_isCountWell_70 : decode prog_5_method_23_code 70 = .ok (.ireturn, 1) := by decide +kernel
def FT_isCountWell (h0 : Hp) (a0 : Nat) (p1 : Int32) : Option Int32 :=
  jn (gR h0 a0 3 5 (fun a2 =>
  ldI h0 a2 0 p1 (fun x3 =>
  jn (fun (y4 : Int32) =>
  gd (y4 = 0 ∨ y4 = 1) (some y4))
  (fun (j5 : Int32 → Option Int32) =>
  jn (j5 1)
  (fun (j6 : Option Int32) =>
  if x3 = (-1) then
    (j6)
  else
    (gR h0 a0 3 2 (fun a7 =>
    ldI h0 a7 0 p1 (fun x8 =>
    gR h0 a0 3 2 (fun a9 =>
    gR h0 a0 3 5 (fun a10 =>
    ldI h0 a10 0 p1 (fun x11 =>
    ldI h0 a9 0 x11 (fun x12 =>
    gR h0 a0 3 2 (fun a13 =>
    gR h0 a0 3 6 (fun a14 =>
    ldI h0 a14 0 p1 (fun x15 =>
    ldI h0 a13 0 x15 (fun x16 =>
    if x8 = (x12 + x16) then
      (j6)
    else
      (j5 0)))))))))))))))))
  (fun (j1 : Option Int32) =>
  if p1 ≤ 0 then
    (j1)
  else
    (gR h0 a0 3 2 (fun a17 =>
    ldI h0 a17 0 p1 (fun x18 =>
    gR h0 a0 3 2 (fun a19 =>
    ldI h0 a19 0 (p1 - 1) (fun x20 =>
    if x18 ≤ x20 then
      (j1)
    else
      (gd (0 = 0 ∨ 0 = 1) (some 0))))))))
set_option maxRecDepth 100000 in
set_option maxHeartbeats 4000000 in
theorem mT_isCountWell (l : Launch) (h0 : Hp) (z0 : Nat) (a0 : Nat) (p1 : Int32) (r : Int32) (hr : FT_isCountWell h0 a0 p1 = some r) : vM True l yT_isCountWell (Cond.code yT_isCountWell prog_5_method_23_code 2 (some (.boolean)) :: gW) 0 [.ref a0, .int p1] h0 z0 h0 z0 (some (.int r)) 0 0 := by
  refine vM.of (by decide) rfl (Nat.le_of_ble_eq_true rfl) ?_
  intro p e s m args below meth c D dA C hin2
  refine (?_ : vO p l e (vR 0 0 0) s m args below meth c D dA (vA h0 z0) 2 True (fun r : Int32 => MQ below (vQc True h0 z0 D dA h0 z0 (some (.int r))) args s 0 0 (vAr True h0 z0)) 0 0 h0 z0 [(0, .ref a0), (1, .int p1)] 0 [] (FT_isCountWell h0 a0 p1)) r hr
  obtain ⟨Q, hQ⟩ : ∃ Q : Int32 → State → Prop, Q = (fun r : Int32 => MQ below (vQc True h0 z0 D dA h0 z0 (some (.int r))) args s 0 0 (vAr True h0 z0)) := ⟨_, rfl⟩
  rw [← hQ]
  unfold FT_isCountWell
  refine v_iload_n C dT_isCountWell_0 rfl 1 rfl ?_
  refine v_jn (fun (j : Option Int32) => vO p l e (vR 0 0 0) s m args below meth c D dA (vA h0 z0) 2 True Q 0 0 h0 z0 [(0, .ref a0), (1, .int p1)] 23 [] j) ?_ (fun j1 Hj1 => ?_)
  · refine v_aload_n C dT_isCountWell_23 rfl 0 rfl ?_
    refine v_getR C v_cl3 (by decide) in_3 rfl w_162 dT_isCountWell_24 (fun a2 => ?_)
    refine v_iload_n C dT_isCountWell_27 rfl 1 rfl ?_
    refine v_iald C rfl dT_isCountWell_28 (fun x3 => ?_)
    refine v_iconst (v := (-1)) C dT_isCountWell_29 (by decide) ?_
    refine v_jn (fun (j : Int32 → Option Int32) => ∀ (y4 : Int32), vO p l e (vR 0 0 0) s m args below meth c D dA (vA h0 z0) 2 True Q 0 0 h0 z0 [] 70 [.int y4] (j y4)) ?_ (fun j5 Hj5 => ?_)
    · intro y4
      exact v_zret C dT_isCountWell_70 (by rw [hQ])
    · refine v_jn (fun (j : Option Int32) => vO p l e (vR 0 0 0) s m args below meth c D dA (vA h0 z0) 2 True Q 0 0 h0 z0 [] 65 [] j) ?_ (fun j6 Hj6 => ?_)
      · refine v_iconst (v := 1) C dT_isCountWell_65 (by decide) ?_
        refine v_goto (tgt := 70) C dT_isCountWell_66 (by decide) ?_
        exact Hj5 1
      · refine v_icmp_eq (tgt := 65) C dT_isCountWell_30 (by decide) ?_ ?_
        · refine v_lv (lv' := []) [] rfl ?_
          exact Hj6
        · refine v_aload_n C dT_isCountWell_33 rfl 0 rfl ?_
          refine v_getR C v_cl3 (by decide) in_3 rfl w_156 dT_isCountWell_34 (fun a7 => ?_)
          refine v_iload_n C dT_isCountWell_37 rfl 1 rfl ?_
          refine v_iald C rfl dT_isCountWell_38 (fun x8 => ?_)
          refine v_aload_n C dT_isCountWell_39 rfl 0 rfl ?_
          refine v_getR C v_cl3 (by decide) in_3 rfl w_156 dT_isCountWell_40 (fun a9 => ?_)
          refine v_aload_n C dT_isCountWell_43 rfl 0 rfl ?_
          refine v_getR C v_cl3 (by decide) in_3 rfl w_162 dT_isCountWell_44 (fun a10 => ?_)
          refine v_iload_n C dT_isCountWell_47 rfl 1 rfl ?_
          refine v_iald C rfl dT_isCountWell_48 (fun x11 => ?_)
          refine v_iald C rfl dT_isCountWell_49 (fun x12 => ?_)
          refine v_aload_n C dT_isCountWell_50 rfl 0 rfl ?_
          refine v_getR C v_cl3 (by decide) in_3 rfl w_156 dT_isCountWell_51 (fun a13 => ?_)
          refine v_aload_n C dT_isCountWell_54 rfl 0 rfl ?_
          refine v_getR C v_cl3 (by decide) in_3 rfl w_164 dT_isCountWell_55 (fun a14 => ?_)
          refine v_iload_n C dT_isCountWell_58 rfl 1 rfl ?_
          refine v_iald C rfl dT_isCountWell_59 (fun x15 => ?_)
          refine v_iald C rfl dT_isCountWell_60 (fun x16 => ?_)
          refine v_iadd C dT_isCountWell_61 ?_
          refine v_icmp_ne (tgt := 69) C dT_isCountWell_62 (by decide) ?_ ?_
          · refine v_iconst (v := 0) C dT_isCountWell_69 (by decide) ?_
            refine v_lv (lv' := []) [] rfl ?_
            exact Hj5 0
          · refine v_lv (lv' := []) [] rfl ?_
            exact Hj6
  · refine v_if_le (tgt := 23) C dT_isCountWell_1 (by decide) ?_ ?_
    · exact Hj1
    · refine v_aload_n C dT_isCountWell_4 rfl 0 rfl ?_
      refine v_getR C v_cl3 (by decide) in_3 rfl w_156 dT_isCountWell_5 (fun a17 => ?_)
      refine v_iload_n C dT_isCountWell_8 rfl 1 rfl ?_
      refine v_iald C rfl dT_isCountWell_9 (fun x18 => ?_)
      refine v_aload_n C dT_isCountWell_10 rfl 0 rfl ?_
      refine v_getR C v_cl3 (by decide) in_3 rfl w_156 dT_isCountWell_11 (fun a19 => ?_)
      refine v_iload_n C dT_isCountWell_14 rfl 1 rfl ?_
      refine v_iconst (v := 1) C dT_isCountWell_15 (by decide) ?_
      refine v_isub C dT_isCountWell_16 ?_
      refine v_iald C rfl dT_isCountWell_17 (fun x20 => ?_)
      refine v_icmp_le (tgt := 23) C dT_isCountWell_18 (by decide) ?_ ?_
      · exact Hj1
      · refine v_iconst (v := 0) C dT_isCountWell_21 (by decide) ?_
        exact v_zret C dT_isCountWell_22 (by rw [hQ])
theorem dT_isWell_0 : decode prog_5_method_20_code 0 = .ok (.iconst 0, 1) := by decide +kernel
theorem dT_isWell_1 : decode prog_5_method_20_code 1 = .ok (.istore_n 1, 1) := by decide +kernel
theorem dT_isWell_2 : decode prog_5_method_20_code 2 = .ok (.iload_n 1, 1) := by decide +kernel
theorem dT_isWell_3 : decode prog_5_method_20_code 3 = .ok (.aload_n 0, 1) := by decide +kernel
theorem dT_isWell_4 : decode prog_5_method_20_code 4 = .ok (.getfield 15, 3) := by decide +kernel
theorem dT_isWell_7 : decode prog_5_method_20_code 7 = .ok (.if_icmp .ge 44, 3) := by decide +kernel
theorem dT_isWell_10 : decode prog_5_method_20_code 10 = .ok (.aload_n 0, 1) := by decide +kernel
theorem dT_isWell_11 : decode prog_5_method_20_code 11 = .ok (.iload_n 1, 1) := by decide +kernel
theorem dT_isWell_12 : decode prog_5_method_20_code 12 = .ok (.invokevirtual 117, 3) := by decide +kernel
theorem dT_isWell_15 : decode prog_5_method_20_code 15 = .ok (.ifCond .eq 11, 3) := by decide +kernel
theorem dT_isWell_18 : decode prog_5_method_20_code 18 = .ok (.aload_n 0, 1) := by decide +kernel
theorem dT_isWell_19 : decode prog_5_method_20_code 19 = .ok (.iload_n 1, 1) := by decide +kernel
theorem dT_isWell_20 : decode prog_5_method_20_code 20 = .ok (.invokevirtual 120, 3) := by decide +kernel
theorem dT_isWell_23 : decode prog_5_method_20_code 23 = .ok (.ifCond .ne 5, 3) := by decide +kernel
theorem dT_isWell_26 : decode prog_5_method_20_code 26 = .ok (.iconst 0, 1) := by decide +kernel
theorem dT_isWell_27 : decode prog_5_method_20_code 27 = .ok (.ireturn, 1) := by decide +kernel
theorem dT_isWell_28 : decode prog_5_method_20_code 28 = .ok (.aload_n 0, 1) := by decide +kernel
theorem dT_isWell_29 : decode prog_5_method_20_code 29 = .ok (.getfield 9, 3) := by decide +kernel
theorem dT_isWell_32 : decode prog_5_method_20_code 32 = .ok (.ifCond .ne 13, 3) := by decide +kernel
theorem dT_isWell_35 : decode prog_5_method_20_code 35 = .ok (.aload_n 0, 1) := by decide +kernel
theorem dT_isWell_36 : decode prog_5_method_20_code 36 = .ok (.iload_n 1, 1) := by decide +kernel
theorem dT_isWell_37 : decode prog_5_method_20_code 37 = .ok (.invokevirtual 123, 3) := by decide +kernel
theorem dT_isWell_40 : decode prog_5_method_20_code 40 = .ok (.ifCond .ne 5, 3) := by decide +kernel
theorem dT_isWell_43 : decode prog_5_method_20_code 43 = .ok (.iconst 0, 1) := by decide +kernel
theorem dT_isWell_44 : decode prog_5_method_20_code 44 = .ok (.ireturn, 1) := by decide +kernel
theorem dT_isWell_45 : decode prog_5_method_20_code 45 = .ok (.iinc 1 1, 3) := by decide +kernel
theorem dT_isWell_48 : decode prog_5_method_20_code 48 = .ok (.goto (-46), 3) := by decide +kernel
theorem dT_isWell_51 : decode prog_5_method_20_code 51 = .ok (.iconst 0, 1) := by decide +kernel
theorem dT_isWell_52 : decode prog_5_method_20_code 52 = .ok (.istore_n 1, 1) := by decide +kernel
theorem dT_isWell_53 : decode prog_5_method_20_code 53 = .ok (.iload_n 1, 1) := by decide +kernel
theorem dT_isWell_54 : decode prog_5_method_20_code 54 = .ok (.aload_n 0, 1) := by decide +kernel
theorem dT_isWell_55 : decode prog_5_method_20_code 55 = .ok (.getfield 24, 3) := by decide +kernel
theorem dT_isWell_58 : decode prog_5_method_20_code 58 = .ok (.if_icmp .ge 34, 3) := by decide +kernel
theorem dT_isWell_61 : decode prog_5_method_20_code 61 = .ok (.aload_n 0, 1) := by decide +kernel
theorem dT_isWell_62 : decode prog_5_method_20_code 62 = .ok (.iload_n 1, 1) := by decide +kernel
theorem dT_isWell_63 : decode prog_5_method_20_code 63 = .ok (.invokevirtual 76, 3) := by decide +kernel
theorem dT_isWell_66 : decode prog_5_method_20_code 66 = .ok (.ifCond .eq 20, 3) := by decide +kernel
theorem dT_isWell_69 : decode prog_5_method_20_code 69 = .ok (.aload_n 0, 1) := by decide +kernel
theorem dT_isWell_70 : decode prog_5_method_20_code 70 = .ok (.getfield 39, 3) := by decide +kernel
theorem dT_isWell_73 : decode prog_5_method_20_code 73 = .ok (.aload_n 0, 1) := by decide +kernel
theorem dT_isWell_74 : decode prog_5_method_20_code 74 = .ok (.getfield 51, 3) := by decide +kernel
theorem dT_isWell_77 : decode prog_5_method_20_code 77 = .ok (.iload_n 1, 1) := by decide +kernel
theorem dT_isWell_78 : decode prog_5_method_20_code 78 = .ok (.iaload, 1) := by decide +kernel
theorem dT_isWell_79 : decode prog_5_method_20_code 79 = .ok (.iaload, 1) := by decide +kernel
theorem dT_isWell_80 : decode prog_5_method_20_code 80 = .ok (.iload_n 1, 1) := by decide +kernel
theorem dT_isWell_81 : decode prog_5_method_20_code 81 = .ok (.if_icmp .eq 5, 3) := by decide +kernel
theorem dT_isWell_84 : decode prog_5_method_20_code 84 = .ok (.iconst 0, 1) := by decide +kernel
theorem dT_isWell_85 : decode prog_5_method_20_code 85 = .ok (.ireturn, 1) := by decide +kernel
theorem dT_isWell_86 : decode prog_5_method_20_code 86 = .ok (.iinc 1 1, 3) := by decide +kernel
theorem dT_isWell_89 : decode prog_5_method_20_code 89 = .ok (.goto (-36), 3) := by decide +kernel
theorem dT_isWell_92 : decode prog_5_method_20_code 92 = .ok (.iconst 1, 1) := by decide +kernel
theorem dT_isWell_93 : decode prog_5_method_20_code 93 = .ok (.ireturn, 1) := by decide +kernel
def LT_isWell_53 (h0 : Hp) (a0 : Nat) (K2 : Option Int32) (K3 : Option Int32) (rec5 : Int32 → Option Int32) (x4 : Int32) : Option Int32 :=
  gI h0 a0 3 0 (fun x6 =>
  if x6 ≤ x4 then
    (K2)
  else
    (gd (isO h0 a0 3 = true) ((FT_hasLeafOf h0 a0 x4).bind (fun r8 =>
    jn (rec5 (x4 + 1))
    (fun (j9 : Option Int32) =>
    if r8 = 0 then
      (j9)
    else
      (gR h0 a0 3 3 (fun a10 =>
      gR h0 a0 3 7 (fun a11 =>
      ldI h0 a11 0 x4 (fun x12 =>
      ldI h0 a10 0 x12 (fun x13 =>
      if x13 = x4 then
        (j9)
      else
        (K3)))))))))))
def LT_isWell_2 (h0 : Hp) (a0 : Nat) (K1 : Option Int32) (K14 : Option Int32) (K15 : Option Int32) (rec17 : Int32 → Option Int32) (x16 : Int32) : Option Int32 :=
  gI h0 a0 3 9 (fun x18 =>
  if x18 ≤ x16 then
    (K1)
  else
    (gd (isO h0 a0 3 = true) ((FT_areChildrenWell h0 a0 x16).bind (fun r20 =>
    if r20 = 0 then
      (K15)
    else
      (gd (isO h0 a0 3 = true) ((FT_isOnlyLeafOfItsSign h0 a0 x16).bind (fun r22 =>
      if r22 = 0 then
        (K15)
      else
        (gI h0 a0 3 8 (fun x23 =>
        jn (rec17 (x16 + 1))
        (fun (j24 : Option Int32) =>
        if x23 = 0 then
          (gd (isO h0 a0 3 = true) ((FT_isCountWell h0 a0 x16).bind (fun r26 =>
          if r26 = 0 then
            (K14)
          else
            (j24))))
        else
          (j24)))))))))))
def FT_isWell (h0 : Hp) (a0 : Nat) : Option Int32 :=
  jn (jn (gd (1 = 0 ∨ 1 = 1) (some 1))
  (fun (K2 : Option Int32) =>
  jn (gd (0 = 0 ∨ 0 = 1) (some 0))
  (fun (K3 : Option Int32) =>
  lpG (fun _ => none) fu (LT_isWell_53 h0 a0 K2 K3) 0)))
  (fun (K1 : Option Int32) =>
  jn (gd (0 = 0 ∨ 0 = 1) (some 0))
  (fun (K14 : Option Int32) =>
  jn (gd (0 = 0 ∨ 0 = 1) (some 0))
  (fun (K15 : Option Int32) =>
  lpG (fun _ => none) fu (LT_isWell_2 h0 a0 K1 K14 K15) 0)))
set_option maxRecDepth 100000 in
set_option maxHeartbeats 4000000 in
theorem mT_isWell (l : Launch) (h0 : Hp) (z0 : Nat) (a0 : Nat) (r : Int32) (hr : FT_isWell h0 a0 = some r) : vM True l yT_isWell (Cond.code yT_isWell prog_5_method_20_code 2 (some (.boolean)) :: gW) 1 [.ref a0] h0 z0 h0 z0 (some (.int r)) 0 0 := by
  refine vM.of (by decide) rfl (Nat.le_of_ble_eq_true rfl) ?_
  intro p e s m args below meth c D dA C hin2
  refine (?_ : vO p l e (vR 1 0 0) s m args below meth c D dA (vA h0 z0) 2 True (fun r : Int32 => MQ below (vQc True h0 z0 D dA h0 z0 (some (.int r))) args s 0 0 (vAr True h0 z0)) 0 0 h0 z0 [(0, .ref a0)] 0 [] (FT_isWell h0 a0)) r hr
  obtain ⟨Q, hQ⟩ : ∃ Q : Int32 → State → Prop, Q = (fun r : Int32 => MQ below (vQc True h0 z0 D dA h0 z0 (some (.int r))) args s 0 0 (vAr True h0 z0)) := ⟨_, rfl⟩
  rw [← hQ]
  unfold FT_isWell
  refine v_iconst (v := 0) C dT_isWell_0 (by decide) ?_
  refine v_istore_n (lv' := [(0, .ref a0), (1, .int 0)]) C dT_isWell_1 rfl (by decide) [1, 0] rfl ?_
  refine v_jn (fun (j : Option Int32) => vO p l e (vR 1 0 0) s m args below meth c D dA (vA h0 z0) 2 True Q 0 0 h0 z0 [(0, .ref a0)] 51 [] j) ?_ (fun K1 HK1 => ?_)
  · refine v_iconst (v := 0) C dT_isWell_51 (by decide) ?_
    refine v_istore_n (lv' := [(0, .ref a0), (1, .int 0)]) C dT_isWell_52 rfl (by decide) [1, 0] rfl ?_
    refine v_jn (fun (j : Option Int32) => vO p l e (vR 1 0 0) s m args below meth c D dA (vA h0 z0) 2 True Q 0 0 h0 z0 [] 92 [] j) ?_ (fun K2 HK2 => ?_)
    · refine v_iconst (v := 1) C dT_isWell_92 (by decide) ?_
      exact v_zret C dT_isWell_93 (by rw [hQ])
    · refine v_jn (fun (j : Option Int32) => vO p l e (vR 1 0 0) s m args below meth c D dA (vA h0 z0) 2 True Q 0 0 h0 z0 [] 84 [] j) ?_ (fun K3 HK3 => ?_)
      · refine v_iconst (v := 0) C dT_isWell_84 (by decide) ?_
        exact v_zret C dT_isWell_85 (by rw [hQ])
      · refine lpG_ind (bot := (fun _ => none)) (B := LT_isWell_53 h0 a0 K2 K3) (fun (r : Int32 → Option Int32) => ∀ (x4 : Int32), vO p l e (vR 1 0 0) s m args below meth c D dA (vA h0 z0) 2 True Q 0 0 h0 z0 [(0, .ref a0), (1, .int x4)] 53 [] (r x4)) ?_ ?_ fu 0
        · intro x4
          exact v_none
        · intro rec5 Hrec5 x4
          unfold LT_isWell_53
          refine v_iload_n C dT_isWell_53 rfl 1 rfl ?_
          refine v_aload_n C dT_isWell_54 rfl 0 rfl ?_
          refine v_getI C v_cl3 (by decide) in_3 rfl w_154 dT_isWell_55 (fun x6 => ?_)
          refine v_icmp_ge (tgt := 92) C dT_isWell_58 (by decide) ?_ ?_
          · refine v_lv (lv' := []) [] rfl ?_
            exact HK2
          · refine v_aload_n C dT_isWell_61 rfl 0 rfl ?_
            refine v_iload_n C dT_isWell_62 rfl 1 rfl ?_
            refine v_gd fun hO7 => ?_
            refine v_bind fun r8 hr8 => ?_
            refine v_callV0 (N := 1) (As := [.int x4]) (st := []) C (fun _ => trivial) (mT_hasLeafOf l h0 z0 a0 x4 r8 hr8) rfl w_280 w_50 (by decide +kernel) ⟨Nat.le_of_ble_eq_true rfl, Nat.le_of_ble_eq_true rfl⟩ rfl rfl (Nat.le_of_ble_eq_true rfl) ⟨Nat.zero_le _, Nat.zero_le _⟩ w_314 w_278 w_279 v_cl3 rfl hO7 dT_isWell_63 ?_
            refine v_jn (fun (j : Option Int32) => vO p l e (vR 1 0 0) s m args below meth c D dA (vA h0 z0) 2 True Q 0 0 h0 z0 [(0, .ref a0), (1, .int x4)] 86 [] j) ?_ (fun j9 Hj9 => ?_)
            · refine v_iinc (v := (x4 + 1)) (lv' := [(0, .ref a0), (1, .int (x4 + 1))]) C dT_isWell_86 1 rfl rfl (by decide) [1, 0] rfl ?_
              refine v_goto (tgt := 53) C dT_isWell_89 (by decide) ?_
              exact Hrec5 (x4 + 1)
            · refine v_if_eq (tgt := 86) C dT_isWell_66 (by decide) ?_ ?_
              · exact Hj9
              · refine v_aload_n C dT_isWell_69 rfl 0 rfl ?_
                refine v_getR C v_cl3 (by decide) in_3 rfl w_158 dT_isWell_70 (fun a10 => ?_)
                refine v_aload_n C dT_isWell_73 rfl 0 rfl ?_
                refine v_getR C v_cl3 (by decide) in_3 rfl w_165 dT_isWell_74 (fun a11 => ?_)
                refine v_iload_n C dT_isWell_77 rfl 1 rfl ?_
                refine v_iald C rfl dT_isWell_78 (fun x12 => ?_)
                refine v_iald C rfl dT_isWell_79 (fun x13 => ?_)
                refine v_iload_n C dT_isWell_80 rfl 1 rfl ?_
                refine v_icmp_eq (tgt := 86) C dT_isWell_81 (by decide) ?_ ?_
                · exact Hj9
                · refine v_lv (lv' := []) [] rfl ?_
                  exact HK3
  · refine v_jn (fun (j : Option Int32) => vO p l e (vR 1 0 0) s m args below meth c D dA (vA h0 z0) 2 True Q 0 0 h0 z0 [] 43 [] j) ?_ (fun K14 HK14 => ?_)
    · refine v_iconst (v := 0) C dT_isWell_43 (by decide) ?_
      exact v_zret C dT_isWell_44 (by rw [hQ])
    · refine v_jn (fun (j : Option Int32) => vO p l e (vR 1 0 0) s m args below meth c D dA (vA h0 z0) 2 True Q 0 0 h0 z0 [] 26 [] j) ?_ (fun K15 HK15 => ?_)
      · refine v_iconst (v := 0) C dT_isWell_26 (by decide) ?_
        exact v_zret C dT_isWell_27 (by rw [hQ])
      · refine lpG_ind (bot := (fun _ => none)) (B := LT_isWell_2 h0 a0 K1 K14 K15) (fun (r : Int32 → Option Int32) => ∀ (x16 : Int32), vO p l e (vR 1 0 0) s m args below meth c D dA (vA h0 z0) 2 True Q 0 0 h0 z0 [(0, .ref a0), (1, .int x16)] 2 [] (r x16)) ?_ ?_ fu 0
        · intro x16
          exact v_none
        · intro rec17 Hrec17 x16
          unfold LT_isWell_2
          refine v_iload_n C dT_isWell_2 rfl 1 rfl ?_
          refine v_aload_n C dT_isWell_3 rfl 0 rfl ?_
          refine v_getI C v_cl3 (by decide) in_3 rfl w_169 dT_isWell_4 (fun x18 => ?_)
          refine v_icmp_ge (tgt := 51) C dT_isWell_7 (by decide) ?_ ?_
          · refine v_lv (lv' := [(0, .ref a0)]) [0] rfl ?_
            exact HK1
          · refine v_aload_n C dT_isWell_10 rfl 0 rfl ?_
            refine v_iload_n C dT_isWell_11 rfl 1 rfl ?_
            refine v_gd fun hO19 => ?_
            refine v_bind fun r20 hr20 => ?_
            refine v_callV0 (N := 1) (As := [.int x16]) (st := []) C (fun _ => trivial) (mT_areChildrenWell l h0 z0 a0 x16 r20 hr20) rfl w_449 w_50 (by decide +kernel) ⟨Nat.le_of_ble_eq_true rfl, Nat.le_of_ble_eq_true rfl⟩ rfl rfl (Nat.le_of_ble_eq_true rfl) ⟨Nat.zero_le _, Nat.zero_le _⟩ w_446 w_448 w_18 v_cl3 rfl hO19 dT_isWell_12 ?_
            refine v_if_eq (tgt := 26) C dT_isWell_15 (by decide) ?_ ?_
            · refine v_lv (lv' := []) [] rfl ?_
              exact HK15
            · refine v_aload_n C dT_isWell_18 rfl 0 rfl ?_
              refine v_iload_n C dT_isWell_19 rfl 1 rfl ?_
              refine v_gd fun hO21 => ?_
              refine v_bind fun r22 hr22 => ?_
              refine v_callV0 (N := 1) (As := [.int x16]) (st := []) C (fun _ => trivial) (mT_isOnlyLeafOfItsSign l h0 z0 a0 x16 r22 hr22) rfl w_453 w_50 (by decide +kernel) ⟨Nat.le_of_ble_eq_true rfl, Nat.le_of_ble_eq_true rfl⟩ rfl rfl (Nat.le_of_ble_eq_true rfl) ⟨Nat.zero_le _, Nat.zero_le _⟩ w_450 w_452 w_19 v_cl3 rfl hO21 dT_isWell_20 ?_
              refine v_if_ne (tgt := 28) C dT_isWell_23 (by decide) ?_ ?_
              · refine v_aload_n C dT_isWell_28 rfl 0 rfl ?_
                refine v_getI C v_cl3 (by decide) in_3 rfl w_167 dT_isWell_29 (fun x23 => ?_)
                refine v_jn (fun (j : Option Int32) => vO p l e (vR 1 0 0) s m args below meth c D dA (vA h0 z0) 2 True Q 0 0 h0 z0 [(0, .ref a0), (1, .int x16)] 45 [] j) ?_ (fun j24 Hj24 => ?_)
                · refine v_iinc (v := (x16 + 1)) (lv' := [(0, .ref a0), (1, .int (x16 + 1))]) C dT_isWell_45 1 rfl rfl (by decide) [1, 0] rfl ?_
                  refine v_goto (tgt := 2) C dT_isWell_48 (by decide) ?_
                  exact Hrec17 (x16 + 1)
                · refine v_if_ne (tgt := 45) C dT_isWell_32 (by decide) ?_ ?_
                  · exact Hj24
                  · refine v_aload_n C dT_isWell_35 rfl 0 rfl ?_
                    refine v_iload_n C dT_isWell_36 rfl 1 rfl ?_
                    refine v_gd fun hO25 => ?_
                    refine v_bind fun r26 hr26 => ?_
                    refine v_callV0 (N := 1) (As := [.int x16]) (st := []) C (fun _ => trivial) (mT_isCountWell l h0 z0 a0 x16 r26 hr26) rfl w_457 w_50 (by decide +kernel) ⟨Nat.le_of_ble_eq_true rfl, Nat.le_of_ble_eq_true rfl⟩ rfl rfl (Nat.le_of_ble_eq_true rfl) ⟨Nat.zero_le _, Nat.zero_le _⟩ w_454 w_456 w_20 v_cl3 rfl hO25 dT_isWell_37 ?_
                    refine v_if_ne (tgt := 45) C dT_isWell_40 (by decide) ?_ ?_
                    · exact Hj24
                    · refine v_lv (lv' := []) [] rfl ?_
                      exact HK14
              · refine v_lv (lv' := []) [] rfl ?_
                exact HK15
theorem dA_well_0 : decode prog_1_method_18_code 0 = .ok (.iload_n 1, 1) := by decide +kernel
theorem dA_well_1 : decode prog_1_method_18_code 1 = .ok (.invokestatic 123, 3) := by decide +kernel
theorem dA_well_4 : decode prog_1_method_18_code 4 = .ok (.ifCond .eq 25, 3) := by decide +kernel
theorem dA_well_7 : decode prog_1_method_18_code 7 = .ok (.iload_n 2, 1) := by decide +kernel
theorem dA_well_8 : decode prog_1_method_18_code 8 = .ok (.invokestatic 83, 3) := by decide +kernel
theorem dA_well_11 : decode prog_1_method_18_code 11 = .ok (.ifCond .eq 18, 3) := by decide +kernel
theorem dA_well_14 : decode prog_1_method_18_code 14 = .ok (.aload_n 0, 1) := by decide +kernel
theorem dA_well_15 : decode prog_1_method_18_code 15 = .ok (.iload_n 1, 1) := by decide +kernel
theorem dA_well_16 : decode prog_1_method_18_code 16 = .ok (.iload_n 2, 1) := by decide +kernel
theorem dA_well_17 : decode prog_1_method_18_code 17 = .ok (.invokevirtual 126, 3) := by decide +kernel
theorem dA_well_20 : decode prog_1_method_18_code 20 = .ok (.invokevirtual 172, 3) := by decide +kernel
theorem dA_well_23 : decode prog_1_method_18_code 23 = .ok (.invokestatic 133, 3) := by decide +kernel
theorem dA_well_26 : decode prog_1_method_18_code 26 = .ok (.goto 5, 3) := by decide +kernel
theorem dA_well_29 : decode prog_1_method_18_code 29 = .ok (.bipush (-2), 2) := by decide +kernel
theorem dA_well_31 : decode prog_1_method_18_code 31 = .ok (.ireturn, 1) := by decide +kernel
def FA_well (h0 : Hp) (a0 : Nat) (p1 : Int32) (p2 : Int32) : Option Int32 :=
  (FA_isEnd h0 p1).bind (fun r1 =>
  jn (fun (y2 : Int32) =>
  some y2)
  (fun (j3 : Int32 → Option Int32) =>
  jn (j3 (-2))
  (fun (j4 : Option Int32) =>
  if r1 = 0 then
    (j4)
  else
    ((FA_isTree h0 p2).bind (fun r5 =>
    if r5 = 0 then
      (j4)
    else
      (gd (isO h0 a0 4 = true) ((FA_treeOf h0 a0 p1 p2).bind (fun r7 =>
      gd (isO h0 r7 3 = true) ((FT_isWell h0 r7).bind (fun r9 =>
      (FA_oneIf h0 r9).bind (fun r10 =>
      j3 r10)))))))))))
set_option maxRecDepth 100000 in
set_option maxHeartbeats 4000000 in
theorem mA_well (l : Launch) (h0 : Hp) (z0 : Nat) (a0 : Nat) (p1 : Int32) (p2 : Int32) (r : Int32) (hr : FA_well h0 a0 p1 p2 = some r) : vM True l yA_well (Cond.code yA_well prog_1_method_18_code 3 (some (.int)) :: gW) 2 [.ref a0, .int p1, .int p2] h0 z0 h0 z0 (some (.int r)) 0 0 := by
  refine vM.of (by decide) rfl (Nat.le_of_ble_eq_true rfl) ?_
  intro p e s m args below meth c D dA C hin2
  refine (?_ : vO p l e (vR 2 0 0) s m args below meth c D dA (vA h0 z0) 3 True (fun r : Int32 => MQ below (vQc True h0 z0 D dA h0 z0 (some (.int r))) args s 0 0 (vAr True h0 z0)) 0 0 h0 z0 [(0, .ref a0), (1, .int p1), (2, .int p2)] 0 [] (FA_well h0 a0 p1 p2)) r hr
  obtain ⟨Q, hQ⟩ : ∃ Q : Int32 → State → Prop, Q = (fun r : Int32 => MQ below (vQc True h0 z0 D dA h0 z0 (some (.int r))) args s 0 0 (vAr True h0 z0)) := ⟨_, rfl⟩
  rw [← hQ]
  unfold FA_well
  refine v_iload_n C dA_well_0 rfl 1 rfl ?_
  refine v_bind fun r1 hr1 => ?_
  refine v_callS0 (N := 1) (As := [.int p1]) (st := []) C (fun _ => trivial) (mA_isEnd l h0 z0 p1 r1 hr1) rfl w_406 w_45 (by decide +kernel) ⟨Nat.le_of_ble_eq_true rfl, Nat.le_of_ble_eq_true rfl⟩ rfl rfl (Nat.le_of_ble_eq_true rfl) ⟨Nat.zero_le _, Nat.zero_le _⟩ w_404 w_405 dA_well_1 ?_
  refine v_jn (fun (j : Int32 → Option Int32) => ∀ (y2 : Int32), vO p l e (vR 2 0 0) s m args below meth c D dA (vA h0 z0) 3 True Q 0 0 h0 z0 [] 31 [.int y2] (j y2)) ?_ (fun j3 Hj3 => ?_)
  · intro y2
    exact v_iret C dA_well_31 (by rw [hQ])
  · refine v_jn (fun (j : Option Int32) => vO p l e (vR 2 0 0) s m args below meth c D dA (vA h0 z0) 3 True Q 0 0 h0 z0 [] 29 [] j) ?_ (fun j4 Hj4 => ?_)
    · refine v_bipush (v := (-2)) C dA_well_29 (by decide) ?_
      exact Hj3 (-2)
    · refine v_if_eq (tgt := 29) C dA_well_4 (by decide) ?_ ?_
      · refine v_lv (lv' := []) [] rfl ?_
        exact Hj4
      · refine v_iload_n C dA_well_7 rfl 2 rfl ?_
        refine v_bind fun r5 hr5 => ?_
        refine v_callS0 (N := 1) (As := [.int p2]) (st := []) C (fun _ => trivial) (mA_isTree l h0 z0 p2 r5 hr5) rfl w_243 w_45 (by decide +kernel) ⟨Nat.le_of_ble_eq_true rfl, Nat.le_of_ble_eq_true rfl⟩ rfl rfl (Nat.le_of_ble_eq_true rfl) ⟨Nat.zero_le _, Nat.zero_le _⟩ w_241 w_242 dA_well_8 ?_
        refine v_if_eq (tgt := 29) C dA_well_11 (by decide) ?_ ?_
        · refine v_lv (lv' := []) [] rfl ?_
          exact Hj4
        · refine v_aload_n C dA_well_14 rfl 0 rfl ?_
          refine v_iload_n C dA_well_15 rfl 1 rfl ?_
          refine v_iload_n C dA_well_16 rfl 2 rfl ?_
          refine v_gd fun hO6 => ?_
          refine v_bind fun r7 hr7 => ?_
          refine v_callV0 (N := 2) (As := [.int p1, .int p2]) (st := []) C (fun _ => trivial) (mA_treeOf l h0 z0 a0 p1 p2 r7 hr7) rfl w_410 w_45 (by decide +kernel) ⟨Nat.le_of_ble_eq_true rfl, Nat.le_of_ble_eq_true rfl⟩ rfl rfl (Nat.le_of_ble_eq_true rfl) ⟨Nat.zero_le _, Nat.zero_le _⟩ w_407 w_409 w_17 v_cl4 rfl hO6 dA_well_17 ?_
          refine v_gd fun hO8 => ?_
          refine v_bind fun r9 hr9 => ?_
          refine v_callV0 (N := 0) (As := []) (st := []) C (fun _ => trivial) (mT_isWell l h0 z0 r7 r9 hr9) rfl w_445 w_50 (by decide +kernel) ⟨Nat.le_of_ble_eq_true rfl, Nat.le_of_ble_eq_true rfl⟩ rfl rfl (Nat.le_of_ble_eq_true rfl) ⟨Nat.zero_le _, Nat.zero_le _⟩ w_442 w_443 w_444 v_cl3 rfl hO8 dA_well_20 ?_
          refine v_bind fun r10 hr10 => ?_
          refine v_callS0 (N := 1) (As := [.int r9]) (st := []) C (fun _ => trivial) (mA_oneIf l h0 z0 r9 r10 hr10) rfl w_421 w_45 (by decide +kernel) ⟨Nat.le_of_ble_eq_true rfl, Nat.le_of_ble_eq_true rfl⟩ rfl rfl (Nat.le_of_ble_eq_true rfl) ⟨Nat.zero_le _, Nat.zero_le _⟩ w_419 w_420 dA_well_23 ?_
          refine v_goto (tgt := 31) C dA_well_26 (by decide) ?_
          refine v_lv (lv' := []) [] rfl ?_
          exact Hj3 r10
