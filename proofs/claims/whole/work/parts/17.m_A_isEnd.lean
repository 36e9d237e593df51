theorem dA_isEnd_0 : decode prog_1_method_25_code 0 = .ok (.iload_n 0, 1) := by decide +kernel
theorem dA_isEnd_1 : decode prog_1_method_25_code 1 = .ok (.ifCond .lt 12, 3) := by decide +kernel
theorem dA_isEnd_4 : decode prog_1_method_25_code 4 = .ok (.iload_n 0, 1) := by decide +kernel
theorem dA_isEnd_5 : decode prog_1_method_25_code 5 = .ok (.iconst 2, 1) := by decide +kernel
theorem dA_isEnd_6 : decode prog_1_method_25_code 6 = .ok (.if_icmp .ge 7, 3) := by decide +kernel
theorem dA_isEnd_9 : decode prog_1_method_25_code 9 = .ok (.iconst 1, 1) := by decide +kernel
theorem dA_isEnd_10 : decode prog_1_method_25_code 10 = .ok (.goto 4, 3) := by decide +kernel
theorem dA_isEnd_13 : decode prog_1_method_25_code 13 = .ok (.iconst 0, 1) := by decide +kernel
theorem dA_isEnd_14 : decode prog_1_method_25_code 14 = .ok (.ireturn, 1) := by decide +kernel
def FA_isEnd (h0 : Hp) (p0 : Int32) : Option Int32 :=
  jn (fun (y1 : Int32) =>
  gd (y1 = 0 ∨ y1 = 1) (some y1))
  (fun (j2 : Int32 → Option Int32) =>
  jn (j2 0)
  (fun (j3 : Option Int32) =>
  if p0 < 0 then
    (j3)
  else
    (if 2 ≤ p0 then
      (j3)
    else
      (j2 1))))
set_option maxRecDepth 100000 in
set_option maxHeartbeats 4000000 in
theorem mA_isEnd (l : Launch) (h0 : Hp) (z0 : Nat) (p0 : Int32) (r : Int32) (hr : FA_isEnd h0 p0 = some r) : vM True l yA_isEnd (Cond.code yA_isEnd prog_1_method_25_code 1 (some (.boolean)) :: gW) 0 [.int p0] h0 z0 h0 z0 (some (.int r)) 0 0 := by
  refine vM.of (by decide) rfl (Nat.le_of_ble_eq_true rfl) ?_
  intro p e s m args below meth c D dA C hin2
  refine (?_ : vO p l e (vR 0 0 0) s m args below meth c D dA (vA h0 z0) 1 True (fun r : Int32 => MQ below (vQc True h0 z0 D dA h0 z0 (some (.int r))) args s 0 0 (vAr True h0 z0)) 0 0 h0 z0 [(0, .int p0)] 0 [] (FA_isEnd h0 p0)) r hr
  obtain ⟨Q, hQ⟩ : ∃ Q : Int32 → State → Prop, Q = (fun r : Int32 => MQ below (vQc True h0 z0 D dA h0 z0 (some (.int r))) args s 0 0 (vAr True h0 z0)) := ⟨_, rfl⟩
  rw [← hQ]
  unfold FA_isEnd
  refine v_iload_n C dA_isEnd_0 rfl 0 rfl ?_
  refine v_jn (fun (j : Int32 → Option Int32) => ∀ (y1 : Int32), vO p l e (vR 0 0 0) s m args below meth c D dA (vA h0 z0) 1 True Q 0 0 h0 z0 [] 14 [.int y1] (j y1)) ?_ (fun j2 Hj2 => ?_)
  · intro y1
    exact v_zret C dA_isEnd_14 (by rw [hQ])
  · refine v_jn (fun (j : Option Int32) => vO p l e (vR 0 0 0) s m args below meth c D dA (vA h0 z0) 1 True Q 0 0 h0 z0 [] 13 [] j) ?_ (fun j3 Hj3 => ?_)
    · refine v_iconst (v := 0) C dA_isEnd_13 (by decide) ?_
      exact Hj2 0
    · refine v_if_lt (tgt := 13) C dA_isEnd_1 (by decide) ?_ ?_
      · refine v_lv (lv' := []) [] rfl ?_
        exact Hj3
      · refine v_iload_n C dA_isEnd_4 rfl 0 rfl ?_
        refine v_iconst (v := 2) C dA_isEnd_5 (by decide) ?_
        refine v_icmp_ge (tgt := 13) C dA_isEnd_6 (by decide) ?_ ?_
        · refine v_lv (lv' := []) [] rfl ?_
          exact Hj3
        · refine v_iconst (v := 1) C dA_isEnd_9 (by decide) ?_
          refine v_goto (tgt := 14) C dA_isEnd_10 (by decide) ?_
          refine v_lv (lv' := []) [] rfl ?_
          exact Hj2 1
theorem dA_treeOf_0 : decode prog_1_method_29_code 0 = .ok (.iload_n 1, 1) := by decide +kernel
theorem dA_treeOf_1 : decode prog_1_method_29_code 1 = .ok (.ifCond .ne 12, 3) := by decide +kernel
theorem dA_treeOf_4 : decode prog_1_method_29_code 4 = .ok (.aload_n 0, 1) := by decide +kernel
theorem dA_treeOf_5 : decode prog_1_method_29_code 5 = .ok (.getfield 11, 3) := by decide +kernel
theorem dA_treeOf_8 : decode prog_1_method_29_code 8 = .ok (.iload_n 2, 1) := by decide +kernel
theorem dA_treeOf_9 : decode prog_1_method_29_code 9 = .ok (.aaload, 1) := by decide +kernel
theorem dA_treeOf_10 : decode prog_1_method_29_code 10 = .ok (.goto 9, 3) := by decide +kernel
theorem dA_treeOf_13 : decode prog_1_method_29_code 13 = .ok (.aload_n 0, 1) := by decide +kernel
theorem dA_treeOf_14 : decode prog_1_method_29_code 14 = .ok (.getfield 15, 3) := by decide +kernel
theorem dA_treeOf_17 : decode prog_1_method_29_code 17 = .ok (.iload_n 2, 1) := by decide +kernel
theorem dA_treeOf_18 : decode prog_1_method_29_code 18 = .ok (.aaload, 1) := by decide +kernel
theorem dA_treeOf_19 : decode prog_1_method_29_code 19 = .ok (.areturn, 1) := by decide +kernel
def FA_treeOf (h0 : Hp) (a0 : Nat) (p1 : Int32) (p2 : Int32) : Option Nat :=
  jn (fun (b1 : Nat) =>
  some b1)
  (fun (j2 : Nat → Option Nat) =>
  if p1 = 0 then
    (gR h0 a0 4 2 (fun a5 =>
    ldQ h0 a5 3 p2 (fun a6 =>
    j2 a6)))
  else
    (gR h0 a0 4 3 (fun a3 =>
    ldQ h0 a3 3 p2 (fun a4 =>
    j2 a4))))
set_option maxRecDepth 100000 in
set_option maxHeartbeats 4000000 in
theorem mA_treeOf (l : Launch) (h0 : Hp) (z0 : Nat) (a0 : Nat) (p1 : Int32) (p2 : Int32) (r : Nat) (hr : FA_treeOf h0 a0 p1 p2 = some r) : vM True l yA_treeOf (Cond.code yA_treeOf prog_1_method_29_code 3 (some (.object "AdaptiveTrees$Tree")) :: gW) 0 [.ref a0, .int p1, .int p2] h0 z0 h0 z0 (some (.ref r)) 0 0 := by
  refine vM.of (by decide) rfl (Nat.le_of_ble_eq_true rfl) ?_
  intro p e s m args below meth c D dA C hin2
  refine (?_ : vO p l e (vR 0 0 0) s m args below meth c D dA (vA h0 z0) 3 True (fun r : Nat => MQ below (vQc True h0 z0 D dA h0 z0 (some (.ref r))) args s 0 0 (vAr True h0 z0)) 0 0 h0 z0 [(0, .ref a0), (1, .int p1), (2, .int p2)] 0 [] (FA_treeOf h0 a0 p1 p2)) r hr
  obtain ⟨Q, hQ⟩ : ∃ Q : Nat → State → Prop, Q = (fun r : Nat => MQ below (vQc True h0 z0 D dA h0 z0 (some (.ref r))) args s 0 0 (vAr True h0 z0)) := ⟨_, rfl⟩
  rw [← hQ]
  unfold FA_treeOf
  refine v_iload_n C dA_treeOf_0 rfl 1 rfl ?_
  refine v_jn (fun (j : Nat → Option Nat) => ∀ (b1 : Nat), vO p l e (vR 0 0 0) s m args below meth c D dA (vA h0 z0) 3 True Q 0 0 h0 z0 [] 19 [.ref b1] (j b1)) ?_ (fun j2 Hj2 => ?_)
  · intro b1
    exact v_aret C (Or.inl ⟨_, rfl⟩) dA_treeOf_19 (by rw [hQ])
  · refine v_if_ne (tgt := 13) C dA_treeOf_1 (by decide) ?_ ?_
    · refine v_aload_n C dA_treeOf_13 rfl 0 rfl ?_
      refine v_getR C v_cl4 (by decide) in_4 rfl w_204 dA_treeOf_14 (fun a3 => ?_)
      refine v_iload_n C dA_treeOf_17 rfl 2 rfl ?_
      refine v_aald C rfl dA_treeOf_18 (fun a4 => ?_)
      refine v_lv (lv' := []) [] rfl ?_
      exact Hj2 a4
    · refine v_aload_n C dA_treeOf_4 rfl 0 rfl ?_
      refine v_getR C v_cl4 (by decide) in_4 rfl w_203 dA_treeOf_5 (fun a5 => ?_)
      refine v_iload_n C dA_treeOf_8 rfl 2 rfl ?_
      refine v_aald C rfl dA_treeOf_9 (fun a6 => ?_)
      refine v_goto (tgt := 19) C dA_treeOf_10 (by decide) ?_
      refine v_lv (lv' := []) [] rfl ?_
      exact Hj2 a6
theorem dA_cost_0 : decode prog_1_method_11_code 0 = .ok (.iload_n 1, 1) := by decide +kernel
theorem dA_cost_1 : decode prog_1_method_11_code 1 = .ok (.invokestatic 123, 3) := by decide +kernel
theorem dA_cost_4 : decode prog_1_method_11_code 4 = .ok (.ifCond .eq 10, 3) := by decide +kernel
theorem dA_cost_7 : decode prog_1_method_11_code 7 = .ok (.iload_n 2, 1) := by decide +kernel
theorem dA_cost_8 : decode prog_1_method_11_code 8 = .ok (.invokestatic 83, 3) := by decide +kernel
theorem dA_cost_11 : decode prog_1_method_11_code 11 = .ok (.ifCond .ne 6, 3) := by decide +kernel
theorem dA_cost_14 : decode prog_1_method_11_code 14 = .ok (.bipush (-2), 2) := by decide +kernel
theorem dA_cost_16 : decode prog_1_method_11_code 16 = .ok (.ireturn, 1) := by decide +kernel
theorem dA_cost_17 : decode prog_1_method_11_code 17 = .ok (.aload_n 0, 1) := by decide +kernel
theorem dA_cost_18 : decode prog_1_method_11_code 18 = .ok (.iload_n 3, 1) := by decide +kernel
theorem dA_cost_19 : decode prog_1_method_11_code 19 = .ok (.invokevirtual 97, 3) := by decide +kernel
theorem dA_cost_22 : decode prog_1_method_11_code 22 = .ok (.ifCond .ne 6, 3) := by decide +kernel
theorem dA_cost_25 : decode prog_1_method_11_code 25 = .ok (.bipush (-3), 2) := by decide +kernel
theorem dA_cost_27 : decode prog_1_method_11_code 27 = .ok (.ireturn, 1) := by decide +kernel
theorem dA_cost_28 : decode prog_1_method_11_code 28 = .ok (.aload_n 0, 1) := by decide +kernel
theorem dA_cost_29 : decode prog_1_method_11_code 29 = .ok (.aload_n 0, 1) := by decide +kernel
theorem dA_cost_30 : decode prog_1_method_11_code 30 = .ok (.iload_n 1, 1) := by decide +kernel
theorem dA_cost_31 : decode prog_1_method_11_code 31 = .ok (.iload_n 2, 1) := by decide +kernel
theorem dA_cost_32 : decode prog_1_method_11_code 32 = .ok (.invokevirtual 126, 3) := by decide +kernel
theorem dA_cost_35 : decode prog_1_method_11_code 35 = .ok (.iload_n 3, 1) := by decide +kernel
theorem dA_cost_36 : decode prog_1_method_11_code 36 = .ok (.invokevirtual 100, 3) := by decide +kernel
theorem dA_cost_39 : decode prog_1_method_11_code 39 = .ok (.aload_n 0, 1) := by decide +kernel
theorem dA_cost_40 : decode prog_1_method_11_code 40 = .ok (.getfield 73, 3) := by decide +kernel
theorem dA_cost_43 : decode prog_1_method_11_code 43 = .ok (.getfield 104, 3) := by decide +kernel
theorem dA_cost_46 : decode prog_1_method_11_code 46 = .ok (.ireturn, 1) := by decide +kernel
def FA_cost (h0 : Hp) (a0 : Nat) (p1 : Int32) (p2 : Int32) (p3 : Int32) : Option (Hp × Int32) :=
  (FA_isEnd h0 p1).bind (fun r1 =>
  jn (some (h0, (-2)))
  (fun (j2 : Option (Hp × Int32)) =>
  if r1 = 0 then
    (j2)
  else
    ((FA_isTree h0 p2).bind (fun r3 =>
    if r3 = 0 then
      (j2)
    else
      (gd (isO h0 a0 4 = true) ((FA_isSign h0 a0 p3).bind (fun r5 =>
      if r5 = 0 then
        (some (h0, (-3)))
      else
        (gd (isO h0 a0 4 = true) ((FA_treeOf h0 a0 p1 p2).bind (fun r7 =>
        gd (isO h0 a0 4 = true) ((FA_layCode h0 a0 r7 p3).bind (fun r9 =>
        gR r9 a0 4 10 (fun a10 =>
        gI r9 a10 0 1 (fun x11 =>
        some (r9, x11)))))))))))))))
set_option maxRecDepth 100000 in
set_option maxHeartbeats 4000000 in
theorem mA_cost (l : Launch) (h0 : Hp) (z0 : Nat) (a0 : Nat) (p1 : Int32) (p2 : Int32) (p3 : Int32) (r : (Hp × Int32)) (hr : FA_cost h0 a0 p1 p2 p3 = some r) : vM False l yA_cost (Cond.code yA_cost prog_1_method_11_code 4 (some (.int)) :: gW) 4 [.ref a0, .int p1, .int p2, .int p3] h0 z0 r.1 z0 (some (.int r.2)) 0 0 := by
  refine vM.of (by decide) rfl (Nat.le_of_ble_eq_true rfl) ?_
  intro p e s m args below meth c D dA C hin2
  refine (?_ : vO p l e (vR 4 0 0) s m args below meth c D dA (vA h0 z0) 4 False (fun r : (Hp × Int32) => MQ below (vQc False h0 z0 D dA r.1 z0 (some (.int r.2))) args s 0 0 (vAr False h0 z0)) 0 0 h0 z0 [(0, .ref a0), (1, .int p1), (2, .int p2), (3, .int p3)] 0 [] (FA_cost h0 a0 p1 p2 p3)) r hr
  obtain ⟨Q, hQ⟩ : ∃ Q : (Hp × Int32) → State → Prop, Q = (fun r : (Hp × Int32) => MQ below (vQc False h0 z0 D dA r.1 z0 (some (.int r.2))) args s 0 0 (vAr False h0 z0)) := ⟨_, rfl⟩
  rw [← hQ]
  unfold FA_cost
  refine v_iload_n C dA_cost_0 rfl 1 rfl ?_
  refine v_bind fun r1 hr1 => ?_
  refine v_callS0 (N := 1) (As := [.int p1]) (st := []) C (fun _ => trivial) (mA_isEnd l h0 z0 p1 r1 hr1) rfl w_435 w_47 (by decide +kernel) ⟨Nat.le_of_ble_eq_true rfl, Nat.le_of_ble_eq_true rfl⟩ rfl rfl (Nat.le_of_ble_eq_true rfl) ⟨Nat.zero_le _, Nat.zero_le _⟩ w_433 w_434 dA_cost_1 ?_
  refine v_jn (fun (j : Option (Hp × Int32)) => vO p l e (vR 4 0 0) s m args below meth c D dA (vA h0 z0) 4 False Q 0 0 h0 z0 [] 14 [] j) ?_ (fun j2 Hj2 => ?_)
  · refine v_bipush (v := (-2)) C dA_cost_14 (by decide) ?_
    exact v_iret C dA_cost_16 (by rw [hQ])
  · refine v_if_eq (tgt := 14) C dA_cost_4 (by decide) ?_ ?_
    · refine v_lv (lv' := []) [] rfl ?_
      exact Hj2
    · refine v_iload_n C dA_cost_7 rfl 2 rfl ?_
      refine v_bind fun r3 hr3 => ?_
      refine v_callS0 (N := 1) (As := [.int p2]) (st := []) C (fun _ => trivial) (mA_isTree l h0 z0 p2 r3 hr3) rfl w_244 w_47 (by decide +kernel) ⟨Nat.le_of_ble_eq_true rfl, Nat.le_of_ble_eq_true rfl⟩ rfl rfl (Nat.le_of_ble_eq_true rfl) ⟨Nat.zero_le _, Nat.zero_le _⟩ w_242 w_243 dA_cost_8 ?_
      refine v_if_ne (tgt := 17) C dA_cost_11 (by decide) ?_ ?_
      · refine v_aload_n C dA_cost_17 rfl 0 rfl ?_
        refine v_iload_n C dA_cost_18 rfl 3 rfl ?_
        refine v_gd fun hO4 => ?_
        refine v_bind fun r5 hr5 => ?_
        refine v_callV0 (N := 1) (As := [.int p3]) (st := []) C (fun _ => trivial) (mA_isSign l h0 z0 a0 p3 r5 hr5) rfl w_273 w_47 (by decide +kernel) ⟨Nat.le_of_ble_eq_true rfl, Nat.le_of_ble_eq_true rfl⟩ rfl rfl (Nat.le_of_ble_eq_true rfl) ⟨Nat.zero_le _, Nat.zero_le _⟩ w_270 w_272 w_3 v_cl4 rfl hO4 dA_cost_19 ?_
        refine v_if_ne (tgt := 28) C dA_cost_22 (by decide) ?_ ?_
        · refine v_aload_n C dA_cost_28 rfl 0 rfl ?_
          refine v_aload_n C dA_cost_29 rfl 0 rfl ?_
          refine v_iload_n C dA_cost_30 rfl 1 rfl ?_
          refine v_iload_n C dA_cost_31 rfl 2 rfl ?_
          refine v_gd fun hO6 => ?_
          refine v_bind fun r7 hr7 => ?_
          refine v_callV0 (N := 2) (As := [.int p1, .int p2]) (st := [.ref a0]) C (fun _ => trivial) (mA_treeOf l h0 z0 a0 p1 p2 r7 hr7) rfl w_439 w_47 (by decide +kernel) ⟨Nat.le_of_ble_eq_true rfl, Nat.le_of_ble_eq_true rfl⟩ rfl rfl (Nat.le_of_ble_eq_true rfl) ⟨Nat.zero_le _, Nat.zero_le _⟩ w_436 w_438 w_18 v_cl4 rfl hO6 dA_cost_32 ?_
          refine v_iload_n C dA_cost_35 rfl 3 rfl ?_
          refine v_gd fun hO8 => ?_
          refine v_bind fun r9 hr9 => ?_
          refine v_callV0 (N := 2) (As := [.ref r7, .int p3]) (st := []) C (fun f => f.elim) (mA_layCode l h0 z0 a0 r7 p3 r9 hr9) rfl w_277 w_47 (by decide +kernel) ⟨Nat.le_of_ble_eq_true rfl, Nat.le_of_ble_eq_true rfl⟩ rfl rfl (Nat.le_of_ble_eq_true rfl) ⟨Nat.zero_le _, Nat.zero_le _⟩ w_274 w_276 w_4 v_cl4 rfl hO8 dA_cost_36 ?_
          refine v_aload_n C dA_cost_39 rfl 0 rfl ?_
          refine v_getR C v_cl4 (by decide) in_4 rfl w_211 dA_cost_40 (fun a10 => ?_)
          refine v_getIN C v_cl0 (by decide) in_0 rfl (nf_1 C.2.2.2.2.2.2.2.2.2) dA_cost_43 (fun x11 => ?_)
          exact v_iret C dA_cost_46 (by rw [hQ])
        · refine v_bipush (v := (-3)) C dA_cost_25 (by decide) ?_
          exact v_iret C dA_cost_27 (by rw [hQ])
      · refine v_lv (lv' := []) [] rfl ?_
        exact Hj2
theorem dA_code_0 : decode prog_1_method_12_code 0 = .ok (.iload_n 1, 1) := by decide +kernel
theorem dA_code_1 : decode prog_1_method_12_code 1 = .ok (.invokestatic 123, 3) := by decide +kernel
theorem dA_code_4 : decode prog_1_method_12_code 4 = .ok (.ifCond .eq 10, 3) := by decide +kernel
theorem dA_code_7 : decode prog_1_method_12_code 7 = .ok (.iload_n 2, 1) := by decide +kernel
theorem dA_code_8 : decode prog_1_method_12_code 8 = .ok (.invokestatic 83, 3) := by decide +kernel
theorem dA_code_11 : decode prog_1_method_12_code 11 = .ok (.ifCond .ne 6, 3) := by decide +kernel
theorem dA_code_14 : decode prog_1_method_12_code 14 = .ok (.bipush (-2), 2) := by decide +kernel
theorem dA_code_16 : decode prog_1_method_12_code 16 = .ok (.ireturn, 1) := by decide +kernel
theorem dA_code_17 : decode prog_1_method_12_code 17 = .ok (.aload_n 0, 1) := by decide +kernel
theorem dA_code_18 : decode prog_1_method_12_code 18 = .ok (.iload_n 3, 1) := by decide +kernel
theorem dA_code_19 : decode prog_1_method_12_code 19 = .ok (.invokevirtual 97, 3) := by decide +kernel
theorem dA_code_22 : decode prog_1_method_12_code 22 = .ok (.ifCond .ne 6, 3) := by decide +kernel
theorem dA_code_25 : decode prog_1_method_12_code 25 = .ok (.bipush (-3), 2) := by decide +kernel
theorem dA_code_27 : decode prog_1_method_12_code 27 = .ok (.ireturn, 1) := by decide +kernel
theorem dA_code_28 : decode prog_1_method_12_code 28 = .ok (.aload_n 0, 1) := by decide +kernel
theorem dA_code_29 : decode prog_1_method_12_code 29 = .ok (.aload_n 0, 1) := by decide +kernel
theorem dA_code_30 : decode prog_1_method_12_code 30 = .ok (.iload_n 1, 1) := by decide +kernel
theorem dA_code_31 : decode prog_1_method_12_code 31 = .ok (.iload_n 2, 1) := by decide +kernel
theorem dA_code_32 : decode prog_1_method_12_code 32 = .ok (.invokevirtual 126, 3) := by decide +kernel
theorem dA_code_35 : decode prog_1_method_12_code 35 = .ok (.iload_n 3, 1) := by decide +kernel
theorem dA_code_36 : decode prog_1_method_12_code 36 = .ok (.invokevirtual 100, 3) := by decide +kernel
theorem dA_code_39 : decode prog_1_method_12_code 39 = .ok (.aload_n 0, 1) := by decide +kernel
theorem dA_code_40 : decode prog_1_method_12_code 40 = .ok (.getfield 73, 3) := by decide +kernel
theorem dA_code_43 : decode prog_1_method_12_code 43 = .ok (.iload 4, 2) := by decide +kernel
theorem dA_code_45 : decode prog_1_method_12_code 45 = .ok (.invokevirtual 107, 3) := by decide +kernel
theorem dA_code_48 : decode prog_1_method_12_code 48 = .ok (.ireturn, 1) := by decide +kernel
def FA_code (h0 : Hp) (a0 : Nat) (p1 : Int32) (p2 : Int32) (p3 : Int32) (p4 : Int32) : Option (Hp × Int32) :=
  (FA_isEnd h0 p1).bind (fun r1 =>
  jn (some (h0, (-2)))
  (fun (j2 : Option (Hp × Int32)) =>
  if r1 = 0 then
    (j2)
  else
    ((FA_isTree h0 p2).bind (fun r3 =>
    if r3 = 0 then
      (j2)
    else
      (gd (isO h0 a0 4 = true) ((FA_isSign h0 a0 p3).bind (fun r5 =>
      if r5 = 0 then
        (some (h0, (-3)))
      else
        (gd (isO h0 a0 4 = true) ((FA_treeOf h0 a0 p1 p2).bind (fun r7 =>
        gd (isO h0 a0 4 = true) ((FA_layCode h0 a0 r7 p3).bind (fun r9 =>
        gR r9 a0 4 10 (fun a10 =>
        gd (isO r9 a10 0 = true) ((FC_bitAt r9 a10 p4).bind (fun r12 =>
        some (r9, r12))))))))))))))))
set_option maxRecDepth 100000 in
set_option maxHeartbeats 4000000 in
theorem mA_code (l : Launch) (h0 : Hp) (z0 : Nat) (a0 : Nat) (p1 : Int32) (p2 : Int32) (p3 : Int32) (p4 : Int32) (r : (Hp × Int32)) (hr : FA_code h0 a0 p1 p2 p3 p4 = some r) : vM False l yA_code (Cond.code yA_code prog_1_method_12_code 5 (some (.int)) :: gW) 4 [.ref a0, .int p1, .int p2, .int p3, .int p4] h0 z0 r.1 z0 (some (.int r.2)) 0 0 := by
  refine vM.of (by decide) rfl (Nat.le_of_ble_eq_true rfl) ?_
  intro p e s m args below meth c D dA C hin2
  refine (?_ : vO p l e (vR 4 0 0) s m args below meth c D dA (vA h0 z0) 5 False (fun r : (Hp × Int32) => MQ below (vQc False h0 z0 D dA r.1 z0 (some (.int r.2))) args s 0 0 (vAr False h0 z0)) 0 0 h0 z0 [(0, .ref a0), (1, .int p1), (2, .int p2), (3, .int p3), (4, .int p4)] 0 [] (FA_code h0 a0 p1 p2 p3 p4)) r hr
  obtain ⟨Q, hQ⟩ : ∃ Q : (Hp × Int32) → State → Prop, Q = (fun r : (Hp × Int32) => MQ below (vQc False h0 z0 D dA r.1 z0 (some (.int r.2))) args s 0 0 (vAr False h0 z0)) := ⟨_, rfl⟩
  rw [← hQ]
  unfold FA_code
  refine v_iload_n C dA_code_0 rfl 1 rfl ?_
  refine v_bind fun r1 hr1 => ?_
  refine v_callS0 (N := 1) (As := [.int p1]) (st := []) C (fun _ => trivial) (mA_isEnd l h0 z0 p1 r1 hr1) rfl w_435 w_47 (by decide +kernel) ⟨Nat.le_of_ble_eq_true rfl, Nat.le_of_ble_eq_true rfl⟩ rfl rfl (Nat.le_of_ble_eq_true rfl) ⟨Nat.zero_le _, Nat.zero_le _⟩ w_433 w_434 dA_code_1 ?_
  refine v_jn (fun (j : Option (Hp × Int32)) => vO p l e (vR 4 0 0) s m args below meth c D dA (vA h0 z0) 5 False Q 0 0 h0 z0 [] 14 [] j) ?_ (fun j2 Hj2 => ?_)
  · refine v_bipush (v := (-2)) C dA_code_14 (by decide) ?_
    exact v_iret C dA_code_16 (by rw [hQ])
  · refine v_if_eq (tgt := 14) C dA_code_4 (by decide) ?_ ?_
    · refine v_lv (lv' := []) [] rfl ?_
      exact Hj2
    · refine v_iload_n C dA_code_7 rfl 2 rfl ?_
      refine v_bind fun r3 hr3 => ?_
      refine v_callS0 (N := 1) (As := [.int p2]) (st := []) C (fun _ => trivial) (mA_isTree l h0 z0 p2 r3 hr3) rfl w_244 w_47 (by decide +kernel) ⟨Nat.le_of_ble_eq_true rfl, Nat.le_of_ble_eq_true rfl⟩ rfl rfl (Nat.le_of_ble_eq_true rfl) ⟨Nat.zero_le _, Nat.zero_le _⟩ w_242 w_243 dA_code_8 ?_
      refine v_if_ne (tgt := 17) C dA_code_11 (by decide) ?_ ?_
      · refine v_aload_n C dA_code_17 rfl 0 rfl ?_
        refine v_iload_n C dA_code_18 rfl 3 rfl ?_
        refine v_gd fun hO4 => ?_
        refine v_bind fun r5 hr5 => ?_
        refine v_callV0 (N := 1) (As := [.int p3]) (st := []) C (fun _ => trivial) (mA_isSign l h0 z0 a0 p3 r5 hr5) rfl w_273 w_47 (by decide +kernel) ⟨Nat.le_of_ble_eq_true rfl, Nat.le_of_ble_eq_true rfl⟩ rfl rfl (Nat.le_of_ble_eq_true rfl) ⟨Nat.zero_le _, Nat.zero_le _⟩ w_270 w_272 w_3 v_cl4 rfl hO4 dA_code_19 ?_
        refine v_if_ne (tgt := 28) C dA_code_22 (by decide) ?_ ?_
        · refine v_aload_n C dA_code_28 rfl 0 rfl ?_
          refine v_aload_n C dA_code_29 rfl 0 rfl ?_
          refine v_iload_n C dA_code_30 rfl 1 rfl ?_
          refine v_iload_n C dA_code_31 rfl 2 rfl ?_
          refine v_gd fun hO6 => ?_
          refine v_bind fun r7 hr7 => ?_
          refine v_callV0 (N := 2) (As := [.int p1, .int p2]) (st := [.ref a0]) C (fun _ => trivial) (mA_treeOf l h0 z0 a0 p1 p2 r7 hr7) rfl w_439 w_47 (by decide +kernel) ⟨Nat.le_of_ble_eq_true rfl, Nat.le_of_ble_eq_true rfl⟩ rfl rfl (Nat.le_of_ble_eq_true rfl) ⟨Nat.zero_le _, Nat.zero_le _⟩ w_436 w_438 w_18 v_cl4 rfl hO6 dA_code_32 ?_
          refine v_iload_n C dA_code_35 rfl 3 rfl ?_
          refine v_gd fun hO8 => ?_
          refine v_bind fun r9 hr9 => ?_
          refine v_callV0 (N := 2) (As := [.ref r7, .int p3]) (st := []) C (fun f => f.elim) (mA_layCode l h0 z0 a0 r7 p3 r9 hr9) rfl w_277 w_47 (by decide +kernel) ⟨Nat.le_of_ble_eq_true rfl, Nat.le_of_ble_eq_true rfl⟩ rfl rfl (Nat.le_of_ble_eq_true rfl) ⟨Nat.zero_le _, Nat.zero_le _⟩ w_274 w_276 w_4 v_cl4 rfl hO8 dA_code_36 ?_
          refine v_aload_n C dA_code_39 rfl 0 rfl ?_
          refine v_getR C v_cl4 (by decide) in_4 rfl w_211 dA_code_40 (fun a10 => ?_)
          refine v_iload C dA_code_43 4 rfl ?_
          refine v_gd fun hO11 => ?_
          refine v_bind fun r12 hr12 => ?_
          refine v_callV0 (N := 1) (As := [.int p4]) (st := []) C (fun _ => trivial) (mC_bitAt l r9 z0 a10 p4 r12 hr12) rfl w_315 w_50 (by decide +kernel) ⟨Nat.le_of_ble_eq_true rfl, Nat.le_of_ble_eq_true rfl⟩ rfl rfl (Nat.le_of_ble_eq_true rfl) ⟨Nat.zero_le _, Nat.zero_le _⟩ w_312 w_313 w_314 v_cl0 rfl hO11 dA_code_45 ?_
          exact v_iret C dA_code_48 (by rw [hQ])
        · refine v_bipush (v := (-3)) C dA_code_25 (by decide) ?_
          exact v_iret C dA_code_27 (by rw [hQ])
      · refine v_lv (lv' := []) [] rfl ?_
        exact Hj2
theorem dA_oneIf_0 : decode prog_1_method_24_code 0 = .ok (.iload_n 0, 1) := by decide +kernel
theorem dA_oneIf_1 : decode prog_1_method_24_code 1 = .ok (.ifCond .eq 7, 3) := by decide +kernel
theorem dA_oneIf_4 : decode prog_1_method_24_code 4 = .ok (.iconst 1, 1) := by decide +kernel
theorem dA_oneIf_5 : decode prog_1_method_24_code 5 = .ok (.goto 4, 3) := by decide +kernel
theorem dA_oneIf_8 : decode prog_1_method_24_code 8 = .ok (.iconst 0, 1) := by decide +kernel
theorem dA_oneIf_9 : decode prog_1_method_24_code 9 = .ok (.ireturn, 1) := by decide +kernel
def FA_oneIf (h0 : Hp) (p0 : Int32) : Option Int32 :=
  jn (fun (y1 : Int32) =>
  some y1)
  (fun (j2 : Int32 → Option Int32) =>
  if p0 = 0 then
    (j2 0)
  else
    (j2 1))
set_option maxRecDepth 100000 in
set_option maxHeartbeats 4000000 in
theorem mA_oneIf (l : Launch) (h0 : Hp) (z0 : Nat) (p0 : Int32) (r : Int32) (hr : FA_oneIf h0 p0 = some r) : vM True l yA_oneIf (Cond.code yA_oneIf prog_1_method_24_code 1 (some (.int)) :: gW) 0 [.int p0] h0 z0 h0 z0 (some (.int r)) 0 0 := by
  refine vM.of (by decide) rfl (Nat.le_of_ble_eq_true rfl) ?_
  intro p e s m args below meth c D dA C hin2
  refine (?_ : vO p l e (vR 0 0 0) s m args below meth c D dA (vA h0 z0) 1 True (fun r : Int32 => MQ below (vQc True h0 z0 D dA h0 z0 (some (.int r))) args s 0 0 (vAr True h0 z0)) 0 0 h0 z0 [(0, .int p0)] 0 [] (FA_oneIf h0 p0)) r hr
  obtain ⟨Q, hQ⟩ : ∃ Q : Int32 → State → Prop, Q = (fun r : Int32 => MQ below (vQc True h0 z0 D dA h0 z0 (some (.int r))) args s 0 0 (vAr True h0 z0)) := ⟨_, rfl⟩
  rw [← hQ]
  unfold FA_oneIf
  refine v_iload_n C dA_oneIf_0 rfl 0 rfl ?_
  refine v_jn (fun (j : Int32 → Option Int32) => ∀ (y1 : Int32), vO p l e (vR 0 0 0) s m args below meth c D dA (vA h0 z0) 1 True Q 0 0 h0 z0 [] 9 [.int y1] (j y1)) ?_ (fun j2 Hj2 => ?_)
  · intro y1
    exact v_iret C dA_oneIf_9 (by rw [hQ])
  · refine v_if_eq (tgt := 8) C dA_oneIf_1 (by decide) ?_ ?_
    · refine v_iconst (v := 0) C dA_oneIf_8 (by decide) ?_
      refine v_lv (lv' := []) [] rfl ?_
      exact Hj2 0
    · refine v_iconst (v := 1) C dA_oneIf_4 (by decide) ?_
      refine v_goto (tgt := 9) C dA_oneIf_5 (by decide) ?_
      refine v_lv (lv' := []) [] rfl ?_
      exact Hj2 1
theorem dA_knows_0 : decode prog_1_method_13_code 0 = .ok (.iload_n 1, 1) := by decide +kernel
theorem dA_knows_1 : decode prog_1_method_13_code 1 = .ok (.invokestatic 123, 3) := by decide +kernel
theorem dA_knows_4 : decode prog_1_method_13_code 4 = .ok (.ifCond .eq 10, 3) := by decide +kernel
theorem dA_knows_7 : decode prog_1_method_13_code 7 = .ok (.iload_n 2, 1) := by decide +kernel
theorem dA_knows_8 : decode prog_1_method_13_code 8 = .ok (.invokestatic 83, 3) := by decide +kernel
theorem dA_knows_11 : decode prog_1_method_13_code 11 = .ok (.ifCond .ne 6, 3) := by decide +kernel
theorem dA_knows_14 : decode prog_1_method_13_code 14 = .ok (.bipush (-2), 2) := by decide +kernel
theorem dA_knows_16 : decode prog_1_method_13_code 16 = .ok (.ireturn, 1) := by decide +kernel
theorem dA_knows_17 : decode prog_1_method_13_code 17 = .ok (.aload_n 0, 1) := by decide +kernel
theorem dA_knows_18 : decode prog_1_method_13_code 18 = .ok (.iload_n 3, 1) := by decide +kernel
theorem dA_knows_19 : decode prog_1_method_13_code 19 = .ok (.invokevirtual 97, 3) := by decide +kernel
theorem dA_knows_22 : decode prog_1_method_13_code 22 = .ok (.ifCond .ne 6, 3) := by decide +kernel
theorem dA_knows_25 : decode prog_1_method_13_code 25 = .ok (.bipush (-3), 2) := by decide +kernel
theorem dA_knows_27 : decode prog_1_method_13_code 27 = .ok (.ireturn, 1) := by decide +kernel
theorem dA_knows_28 : decode prog_1_method_13_code 28 = .ok (.aload_n 0, 1) := by decide +kernel
theorem dA_knows_29 : decode prog_1_method_13_code 29 = .ok (.iload_n 1, 1) := by decide +kernel
theorem dA_knows_30 : decode prog_1_method_13_code 30 = .ok (.iload_n 2, 1) := by decide +kernel
theorem dA_knows_31 : decode prog_1_method_13_code 31 = .ok (.invokevirtual 126, 3) := by decide +kernel
theorem dA_knows_34 : decode prog_1_method_13_code 34 = .ok (.iload_n 3, 1) := by decide +kernel
theorem dA_knows_35 : decode prog_1_method_13_code 35 = .ok (.invokevirtual 130, 3) := by decide +kernel
theorem dA_knows_38 : decode prog_1_method_13_code 38 = .ok (.invokestatic 133, 3) := by decide +kernel
theorem dA_knows_41 : decode prog_1_method_13_code 41 = .ok (.ireturn, 1) := by decide +kernel
def FA_knows (h0 : Hp) (a0 : Nat) (p1 : Int32) (p2 : Int32) (p3 : Int32) : Option Int32 :=
  (FA_isEnd h0 p1).bind (fun r1 =>
  jn (some (-2))
  (fun (j2 : Option Int32) =>
  if r1 = 0 then
    (j2)
  else
    ((FA_isTree h0 p2).bind (fun r3 =>
    if r3 = 0 then
      (j2)
    else
      (gd (isO h0 a0 4 = true) ((FA_isSign h0 a0 p3).bind (fun r5 =>
      if r5 = 0 then
        (some (-3))
      else
        (gd (isO h0 a0 4 = true) ((FA_treeOf h0 a0 p1 p2).bind (fun r7 =>
        gd (isO h0 r7 3 = true) ((FT_hasLeafOf h0 r7 p3).bind (fun r9 =>
        (FA_oneIf h0 r9).bind (fun r10 =>
        some r10)))))))))))))
set_option maxRecDepth 100000 in
set_option maxHeartbeats 4000000 in
theorem mA_knows (l : Launch) (h0 : Hp) (z0 : Nat) (a0 : Nat) (p1 : Int32) (p2 : Int32) (p3 : Int32) (r : Int32) (hr : FA_knows h0 a0 p1 p2 p3 = some r) : vM True l yA_knows (Cond.code yA_knows prog_1_method_13_code 4 (some (.int)) :: gW) 2 [.ref a0, .int p1, .int p2, .int p3] h0 z0 h0 z0 (some (.int r)) 0 0 := by
  refine vM.of (by decide) rfl (Nat.le_of_ble_eq_true rfl) ?_
  intro p e s m args below meth c D dA C hin2
  refine (?_ : vO p l e (vR 2 0 0) s m args below meth c D dA (vA h0 z0) 4 True (fun r : Int32 => MQ below (vQc True h0 z0 D dA h0 z0 (some (.int r))) args s 0 0 (vAr True h0 z0)) 0 0 h0 z0 [(0, .ref a0), (1, .int p1), (2, .int p2), (3, .int p3)] 0 [] (FA_knows h0 a0 p1 p2 p3)) r hr
  obtain ⟨Q, hQ⟩ : ∃ Q : Int32 → State → Prop, Q = (fun r : Int32 => MQ below (vQc True h0 z0 D dA h0 z0 (some (.int r))) args s 0 0 (vAr True h0 z0)) := ⟨_, rfl⟩
  rw [← hQ]
  unfold FA_knows
  refine v_iload_n C dA_knows_0 rfl 1 rfl ?_
  refine v_bind fun r1 hr1 => ?_
  refine v_callS0 (N := 1) (As := [.int p1]) (st := []) C (fun _ => trivial) (mA_isEnd l h0 z0 p1 r1 hr1) rfl w_435 w_47 (by decide +kernel) ⟨Nat.le_of_ble_eq_true rfl, Nat.le_of_ble_eq_true rfl⟩ rfl rfl (Nat.le_of_ble_eq_true rfl) ⟨Nat.zero_le _, Nat.zero_le _⟩ w_433 w_434 dA_knows_1 ?_
  refine v_jn (fun (j : Option Int32) => vO p l e (vR 2 0 0) s m args below meth c D dA (vA h0 z0) 4 True Q 0 0 h0 z0 [] 14 [] j) ?_ (fun j2 Hj2 => ?_)
  · refine v_bipush (v := (-2)) C dA_knows_14 (by decide) ?_
    exact v_iret C dA_knows_16 (by rw [hQ])
  · refine v_if_eq (tgt := 14) C dA_knows_4 (by decide) ?_ ?_
    · refine v_lv (lv' := []) [] rfl ?_
      exact Hj2
    · refine v_iload_n C dA_knows_7 rfl 2 rfl ?_
      refine v_bind fun r3 hr3 => ?_
      refine v_callS0 (N := 1) (As := [.int p2]) (st := []) C (fun _ => trivial) (mA_isTree l h0 z0 p2 r3 hr3) rfl w_244 w_47 (by decide +kernel) ⟨Nat.le_of_ble_eq_true rfl, Nat.le_of_ble_eq_true rfl⟩ rfl rfl (Nat.le_of_ble_eq_true rfl) ⟨Nat.zero_le _, Nat.zero_le _⟩ w_242 w_243 dA_knows_8 ?_
      refine v_if_ne (tgt := 17) C dA_knows_11 (by decide) ?_ ?_
      · refine v_aload_n C dA_knows_17 rfl 0 rfl ?_
        refine v_iload_n C dA_knows_18 rfl 3 rfl ?_
        refine v_gd fun hO4 => ?_
        refine v_bind fun r5 hr5 => ?_
        refine v_callV0 (N := 1) (As := [.int p3]) (st := []) C (fun _ => trivial) (mA_isSign l h0 z0 a0 p3 r5 hr5) rfl w_273 w_47 (by decide +kernel) ⟨Nat.le_of_ble_eq_true rfl, Nat.le_of_ble_eq_true rfl⟩ rfl rfl (Nat.le_of_ble_eq_true rfl) ⟨Nat.zero_le _, Nat.zero_le _⟩ w_270 w_272 w_3 v_cl4 rfl hO4 dA_knows_19 ?_
        refine v_if_ne (tgt := 28) C dA_knows_22 (by decide) ?_ ?_
        · refine v_aload_n C dA_knows_28 rfl 0 rfl ?_
          refine v_iload_n C dA_knows_29 rfl 1 rfl ?_
          refine v_iload_n C dA_knows_30 rfl 2 rfl ?_
          refine v_gd fun hO6 => ?_
          refine v_bind fun r7 hr7 => ?_
          refine v_callV0 (N := 2) (As := [.int p1, .int p2]) (st := []) C (fun _ => trivial) (mA_treeOf l h0 z0 a0 p1 p2 r7 hr7) rfl w_439 w_47 (by decide +kernel) ⟨Nat.le_of_ble_eq_true rfl, Nat.le_of_ble_eq_true rfl⟩ rfl rfl (Nat.le_of_ble_eq_true rfl) ⟨Nat.zero_le _, Nat.zero_le _⟩ w_436 w_438 w_18 v_cl4 rfl hO6 dA_knows_31 ?_
          refine v_iload_n C dA_knows_34 rfl 3 rfl ?_
          refine v_gd fun hO8 => ?_
          refine v_bind fun r9 hr9 => ?_
          refine v_callV0 (N := 1) (As := [.int p3]) (st := []) C (fun _ => trivial) (mT_hasLeafOf l h0 z0 r7 p3 r9 hr9) rfl w_281 w_52 (by decide +kernel) ⟨Nat.le_of_ble_eq_true rfl, Nat.le_of_ble_eq_true rfl⟩ rfl rfl (Nat.le_of_ble_eq_true rfl) ⟨Nat.zero_le _, Nat.zero_le _⟩ w_278 w_279 w_280 v_cl3 rfl hO8 dA_knows_35 ?_
          refine v_bind fun r10 hr10 => ?_
          refine v_callS0 (N := 1) (As := [.int r9]) (st := []) C (fun _ => trivial) (mA_oneIf l h0 z0 r9 r10 hr10) rfl w_450 w_47 (by decide +kernel) ⟨Nat.le_of_ble_eq_true rfl, Nat.le_of_ble_eq_true rfl⟩ rfl rfl (Nat.le_of_ble_eq_true rfl) ⟨Nat.zero_le _, Nat.zero_le _⟩ w_448 w_449 dA_knows_38 ?_
          exact v_iret C dA_knows_41 (by rw [hQ])
        · refine v_bipush (v := (-3)) C dA_knows_25 (by decide) ?_
          exact v_iret C dA_knows_27 (by rw [hQ])
      · refine v_lv (lv' := []) [] rfl ?_
        exact Hj2
theorem dT_depthOf_0 : decode prog_5_method_13_code 0 = .ok (.iconst 0, 1) := by decide +kernel
theorem dT_depthOf_1 : decode prog_5_method_13_code 1 = .ok (.istore_n 2, 1) := by decide +kernel
theorem dT_depthOf_2 : decode prog_5_method_13_code 2 = .ok (.aload_n 0, 1) := by decide +kernel
theorem dT_depthOf_3 : decode prog_5_method_13_code 3 = .ok (.iload_n 1, 1) := by decide +kernel
theorem dT_depthOf_4 : decode prog_5_method_13_code 4 = .ok (.invokevirtual 71, 3) := by decide +kernel
theorem dT_depthOf_7 : decode prog_5_method_13_code 7 = .ok (.istore_n 3, 1) := by decide +kernel
theorem dT_depthOf_8 : decode prog_5_method_13_code 8 = .ok (.iload_n 3, 1) := by decide +kernel
theorem dT_depthOf_9 : decode prog_5_method_13_code 9 = .ok (.iconst (-1), 1) := by decide +kernel
theorem dT_depthOf_10 : decode prog_5_method_13_code 10 = .ok (.if_icmp .eq 23, 3) := by decide +kernel
theorem dT_depthOf_13 : decode prog_5_method_13_code 13 = .ok (.iload_n 2, 1) := by decide +kernel
theorem dT_depthOf_14 : decode prog_5_method_13_code 14 = .ok (.aload_n 0, 1) := by decide +kernel
theorem dT_depthOf_15 : decode prog_5_method_13_code 15 = .ok (.getfield 15, 3) := by decide +kernel
theorem dT_depthOf_18 : decode prog_5_method_13_code 18 = .ok (.if_icmp .ge 15, 3) := by decide +kernel
theorem dT_depthOf_21 : decode prog_5_method_13_code 21 = .ok (.iinc 2 1, 3) := by decide +kernel
theorem dT_depthOf_24 : decode prog_5_method_13_code 24 = .ok (.aload_n 0, 1) := by decide +kernel
theorem dT_depthOf_25 : decode prog_5_method_13_code 25 = .ok (.iload_n 3, 1) := by decide +kernel
theorem dT_depthOf_26 : decode prog_5_method_13_code 26 = .ok (.invokevirtual 71, 3) := by decide +kernel
theorem dT_depthOf_29 : decode prog_5_method_13_code 29 = .ok (.istore_n 3, 1) := by decide +kernel
theorem dT_depthOf_30 : decode prog_5_method_13_code 30 = .ok (.goto (-22), 3) := by decide +kernel
theorem dT_depthOf_33 : decode prog_5_method_13_code 33 = .ok (.iload_n 2, 1) := by decide +kernel
theorem dT_depthOf_34 : decode prog_5_method_13_code 34 = .ok (.ireturn, 1) := by decide +kernel
def LT_depthOf_8 (h0 : Hp) (a0 : Nat) (K4 : Int32 → Option Int32) (rec7 : Int32 → Int32 → Option Int32) (x5 : Int32) (x6 : Int32) : Option Int32 :=
  if x6 = (-1) then
    (K4 x5)
  else
    (gI h0 a0 3 9 (fun x8 =>
    if x8 ≤ x5 then
      (K4 x5)
    else
      (gd (isO h0 a0 3 = true) ((FT_parentOf h0 a0 x6).bind (fun r10 =>
      rec7 (x5 + 1) r10)))))
def FT_depthOf (h0 : Hp) (a0 : Nat) (p1 : Int32) : Option Int32 :=
  gd (isO h0 a0 3 = true) ((FT_parentOf h0 a0 p1).bind (fun r2 =>
  jn (fun (x3 : Int32) =>
  some x3)
  (fun (K4 : Int32 → Option Int32) =>
  lpG (fun _ _ => none) fu (LT_depthOf_8 h0 a0 K4) 0 r2)))
set_option maxRecDepth 100000 in
set_option maxHeartbeats 4000000 in
theorem mT_depthOf (l : Launch) (h0 : Hp) (z0 : Nat) (a0 : Nat) (p1 : Int32) (r : Int32) (hr : FT_depthOf h0 a0 p1 = some r) : vM True l yT_depthOf (Cond.code yT_depthOf prog_5_method_13_code 4 (some (.int)) :: gW) 2 [.ref a0, .int p1] h0 z0 h0 z0 (some (.int r)) 0 0 := by
  refine vM.of (by decide) rfl (Nat.le_of_ble_eq_true rfl) ?_
  intro p e s m args below meth c D dA C hin2
  refine (?_ : vO p l e (vR 2 0 0) s m args below meth c D dA (vA h0 z0) 4 True (fun r : Int32 => MQ below (vQc True h0 z0 D dA h0 z0 (some (.int r))) args s 0 0 (vAr True h0 z0)) 0 0 h0 z0 [(0, .ref a0), (1, .int p1)] 0 [] (FT_depthOf h0 a0 p1)) r hr
  obtain ⟨Q, hQ⟩ : ∃ Q : Int32 → State → Prop, Q = (fun r : Int32 => MQ below (vQc True h0 z0 D dA h0 z0 (some (.int r))) args s 0 0 (vAr True h0 z0)) := ⟨_, rfl⟩
  rw [← hQ]
  unfold FT_depthOf
  refine v_iconst (v := 0) C dT_depthOf_0 (by decide) ?_
  refine v_istore_n (lv' := [(0, .ref a0), (1, .int p1), (2, .int 0)]) C dT_depthOf_1 rfl (by decide) [1, 2, 0] rfl ?_
  refine v_aload_n C dT_depthOf_2 rfl 0 rfl ?_
  refine v_iload_n C dT_depthOf_3 rfl 1 rfl ?_
  refine v_gd fun hO1 => ?_
  refine v_bind fun r2 hr2 => ?_
  refine v_callV0 (N := 1) (As := [.int p1]) (st := []) C (fun _ => trivial) (mT_parentOf l h0 z0 a0 p1 r2 hr2) rfl w_294 w_52 (by decide +kernel) ⟨Nat.le_of_ble_eq_true rfl, Nat.le_of_ble_eq_true rfl⟩ rfl rfl (Nat.le_of_ble_eq_true rfl) ⟨Nat.zero_le _, Nat.zero_le _⟩ w_291 w_292 w_293 v_cl3 rfl hO1 dT_depthOf_4 ?_
  refine v_istore_n (lv' := [(0, .ref a0), (2, .int 0), (3, .int r2)]) C dT_depthOf_7 rfl (by decide) [1, 3, 0] rfl ?_
  refine v_jn (fun (j : Int32 → Option Int32) => ∀ (x3 : Int32), vO p l e (vR 2 0 0) s m args below meth c D dA (vA h0 z0) 4 True Q 0 0 h0 z0 [(2, .int x3)] 33 [] (j x3)) ?_ (fun K4 HK4 => ?_)
  · intro x3
    refine v_iload_n C dT_depthOf_33 rfl 0 rfl ?_
    exact v_iret C dT_depthOf_34 (by rw [hQ])
  · refine lpG_ind (bot := (fun _ _ => none)) (B := LT_depthOf_8 h0 a0 K4) (fun (r : Int32 → Int32 → Option Int32) => ∀ (x5 : Int32), ∀ (x6 : Int32), vO p l e (vR 2 0 0) s m args below meth c D dA (vA h0 z0) 4 True Q 0 0 h0 z0 [(0, .ref a0), (2, .int x5), (3, .int x6)] 8 [] (r x5 x6)) ?_ ?_ fu 0 r2
    · intro x5 x6
      exact v_none
    · intro rec7 Hrec7 x5 x6
      unfold LT_depthOf_8
      refine v_iload_n C dT_depthOf_8 rfl 2 rfl ?_
      refine v_iconst (v := (-1)) C dT_depthOf_9 (by decide) ?_
      refine v_icmp_eq (tgt := 33) C dT_depthOf_10 (by decide) ?_ ?_
      · refine v_lv (lv' := [(2, .int x5)]) [1] rfl ?_
        exact HK4 x5
      · refine v_iload_n C dT_depthOf_13 rfl 1 rfl ?_
        refine v_aload_n C dT_depthOf_14 rfl 0 rfl ?_
        refine v_getI C v_cl3 (by decide) in_3 rfl w_170 dT_depthOf_15 (fun x8 => ?_)
        refine v_icmp_ge (tgt := 33) C dT_depthOf_18 (by decide) ?_ ?_
        · refine v_lv (lv' := [(2, .int x5)]) [1] rfl ?_
          exact HK4 x5
        · refine v_iinc (v := (x5 + 1)) (lv' := [(0, .ref a0), (2, .int (x5 + 1)), (3, .int x6)]) C dT_depthOf_21 1 rfl rfl (by decide) [1, 0, 2] rfl ?_
          refine v_aload_n C dT_depthOf_24 rfl 0 rfl ?_
          refine v_iload_n C dT_depthOf_25 rfl 2 rfl ?_
          refine v_gd fun hO9 => ?_
          refine v_bind fun r10 hr10 => ?_
          refine v_callV0 (N := 1) (As := [.int x6]) (st := []) C (fun _ => trivial) (mT_parentOf l h0 z0 a0 x6 r10 hr10) rfl w_294 w_52 (by decide +kernel) ⟨Nat.le_of_ble_eq_true rfl, Nat.le_of_ble_eq_true rfl⟩ rfl rfl (Nat.le_of_ble_eq_true rfl) ⟨Nat.zero_le _, Nat.zero_le _⟩ w_291 w_292 w_293 v_cl3 rfl hO9 dT_depthOf_26 ?_
          refine v_istore_n (lv' := [(0, .ref a0), (2, .int (x5 + 1)), (3, .int r10)]) C dT_depthOf_29 rfl (by decide) [1, 2, 0] rfl ?_
          refine v_goto (tgt := 8) C dT_depthOf_30 (by decide) ?_
          exact Hrec7 (x5 + 1) r10
theorem dA_escape_0 : decode prog_1_method_14_code 0 = .ok (.iload_n 1, 1) := by decide +kernel
theorem dA_escape_1 : decode prog_1_method_14_code 1 = .ok (.invokestatic 123, 3) := by decide +kernel
theorem dA_escape_4 : decode prog_1_method_14_code 4 = .ok (.ifCond .eq 10, 3) := by decide +kernel
theorem dA_escape_7 : decode prog_1_method_14_code 7 = .ok (.iload_n 2, 1) := by decide +kernel
theorem dA_escape_8 : decode prog_1_method_14_code 8 = .ok (.invokestatic 83, 3) := by decide +kernel
theorem dA_escape_11 : decode prog_1_method_14_code 11 = .ok (.ifCond .ne 6, 3) := by decide +kernel
theorem dA_escape_14 : decode prog_1_method_14_code 14 = .ok (.bipush (-2), 2) := by decide +kernel
theorem dA_escape_16 : decode prog_1_method_14_code 16 = .ok (.ireturn, 1) := by decide +kernel
theorem dA_escape_17 : decode prog_1_method_14_code 17 = .ok (.aload_n 0, 1) := by decide +kernel
theorem dA_escape_18 : decode prog_1_method_14_code 18 = .ok (.iload_n 1, 1) := by decide +kernel
theorem dA_escape_19 : decode prog_1_method_14_code 19 = .ok (.iload_n 2, 1) := by decide +kernel
theorem dA_escape_20 : decode prog_1_method_14_code 20 = .ok (.invokevirtual 126, 3) := by decide +kernel
theorem dA_escape_23 : decode prog_1_method_14_code 23 = .ok (.astore_n 3, 1) := by decide +kernel
theorem dA_escape_24 : decode prog_1_method_14_code 24 = .ok (.aload_n 3, 1) := by decide +kernel
theorem dA_escape_25 : decode prog_1_method_14_code 25 = .ok (.getfield 87, 3) := by decide +kernel
theorem dA_escape_28 : decode prog_1_method_14_code 28 = .ok (.ifCond .ne 14, 3) := by decide +kernel
theorem dA_escape_31 : decode prog_1_method_14_code 31 = .ok (.aload_n 3, 1) := by decide +kernel
theorem dA_escape_32 : decode prog_1_method_14_code 32 = .ok (.aload_n 3, 1) := by decide +kernel
theorem dA_escape_33 : decode prog_1_method_14_code 33 = .ok (.getfield 137, 3) := by decide +kernel
theorem dA_escape_36 : decode prog_1_method_14_code 36 = .ok (.invokevirtual 140, 3) := by decide +kernel
theorem dA_escape_39 : decode prog_1_method_14_code 39 = .ok (.goto 4, 3) := by decide +kernel
theorem dA_escape_42 : decode prog_1_method_14_code 42 = .ok (.iconst (-1), 1) := by decide +kernel
theorem dA_escape_43 : decode prog_1_method_14_code 43 = .ok (.ireturn, 1) := by decide +kernel
def FA_escape (h0 : Hp) (a0 : Nat) (p1 : Int32) (p2 : Int32) : Option Int32 :=
  (FA_isEnd h0 p1).bind (fun r1 =>
  jn (some (-2))
  (fun (j2 : Option Int32) =>
  if r1 = 0 then
    (j2)
  else
    ((FA_isTree h0 p2).bind (fun r3 =>
    if r3 = 0 then
      (j2)
    else
      (gd (isO h0 a0 4 = true) ((FA_treeOf h0 a0 p1 p2).bind (fun r5 =>
      gI h0 r5 3 8 (fun x6 =>
      jn (fun (y7 : Int32) =>
      some y7)
      (fun (j8 : Int32 → Option Int32) =>
      if x6 = 0 then
        (gI h0 r5 3 10 (fun x9 =>
        gd (isO h0 r5 3 = true) ((FT_depthOf h0 r5 x9).bind (fun r11 =>
        j8 r11))))
      else
        (j8 (-1)))))))))))
set_option maxRecDepth 100000 in
set_option maxHeartbeats 4000000 in
theorem mA_escape (l : Launch) (h0 : Hp) (z0 : Nat) (a0 : Nat) (p1 : Int32) (p2 : Int32) (r : Int32) (hr : FA_escape h0 a0 p1 p2 = some r) : vM True l yA_escape (Cond.code yA_escape prog_1_method_14_code 4 (some (.int)) :: gW) 3 [.ref a0, .int p1, .int p2] h0 z0 h0 z0 (some (.int r)) 0 0 := by
  refine vM.of (by decide) rfl (Nat.le_of_ble_eq_true rfl) ?_
  intro p e s m args below meth c D dA C hin2
  refine (?_ : vO p l e (vR 3 0 0) s m args below meth c D dA (vA h0 z0) 4 True (fun r : Int32 => MQ below (vQc True h0 z0 D dA h0 z0 (some (.int r))) args s 0 0 (vAr True h0 z0)) 0 0 h0 z0 [(0, .ref a0), (1, .int p1), (2, .int p2)] 0 [] (FA_escape h0 a0 p1 p2)) r hr
  obtain ⟨Q, hQ⟩ : ∃ Q : Int32 → State → Prop, Q = (fun r : Int32 => MQ below (vQc True h0 z0 D dA h0 z0 (some (.int r))) args s 0 0 (vAr True h0 z0)) := ⟨_, rfl⟩
  rw [← hQ]
  unfold FA_escape
  refine v_iload_n C dA_escape_0 rfl 1 rfl ?_
  refine v_bind fun r1 hr1 => ?_
  refine v_callS0 (N := 1) (As := [.int p1]) (st := []) C (fun _ => trivial) (mA_isEnd l h0 z0 p1 r1 hr1) rfl w_435 w_47 (by decide +kernel) ⟨Nat.le_of_ble_eq_true rfl, Nat.le_of_ble_eq_true rfl⟩ rfl rfl (Nat.le_of_ble_eq_true rfl) ⟨Nat.zero_le _, Nat.zero_le _⟩ w_433 w_434 dA_escape_1 ?_
  refine v_jn (fun (j : Option Int32) => vO p l e (vR 3 0 0) s m args below meth c D dA (vA h0 z0) 4 True Q 0 0 h0 z0 [] 14 [] j) ?_ (fun j2 Hj2 => ?_)
  · refine v_bipush (v := (-2)) C dA_escape_14 (by decide) ?_
    exact v_iret C dA_escape_16 (by rw [hQ])
  · refine v_if_eq (tgt := 14) C dA_escape_4 (by decide) ?_ ?_
    · refine v_lv (lv' := []) [] rfl ?_
      exact Hj2
    · refine v_iload_n C dA_escape_7 rfl 2 rfl ?_
      refine v_bind fun r3 hr3 => ?_
      refine v_callS0 (N := 1) (As := [.int p2]) (st := []) C (fun _ => trivial) (mA_isTree l h0 z0 p2 r3 hr3) rfl w_244 w_47 (by decide +kernel) ⟨Nat.le_of_ble_eq_true rfl, Nat.le_of_ble_eq_true rfl⟩ rfl rfl (Nat.le_of_ble_eq_true rfl) ⟨Nat.zero_le _, Nat.zero_le _⟩ w_242 w_243 dA_escape_8 ?_
      refine v_if_ne (tgt := 17) C dA_escape_11 (by decide) ?_ ?_
      · refine v_aload_n C dA_escape_17 rfl 0 rfl ?_
        refine v_iload_n C dA_escape_18 rfl 1 rfl ?_
        refine v_iload_n C dA_escape_19 rfl 2 rfl ?_
        refine v_gd fun hO4 => ?_
        refine v_bind fun r5 hr5 => ?_
        refine v_callV0 (N := 2) (As := [.int p1, .int p2]) (st := []) C (fun _ => trivial) (mA_treeOf l h0 z0 a0 p1 p2 r5 hr5) rfl w_439 w_47 (by decide +kernel) ⟨Nat.le_of_ble_eq_true rfl, Nat.le_of_ble_eq_true rfl⟩ rfl rfl (Nat.le_of_ble_eq_true rfl) ⟨Nat.zero_le _, Nat.zero_le _⟩ w_436 w_438 w_18 v_cl4 rfl hO4 dA_escape_20 ?_
        refine v_astore_n (lv' := [(3, .ref r5)]) C dA_escape_23 rfl (by decide) [0] rfl ?_
        refine v_aload_n C dA_escape_24 rfl 0 rfl ?_
        refine v_getIN C v_cl3 (by decide) in_3 rfl (nf_0 C.2.2.2.2.2.2.2.2.2) dA_escape_25 (fun x6 => ?_)
        refine v_jn (fun (j : Int32 → Option Int32) => ∀ (y7 : Int32), vO p l e (vR 3 0 0) s m args below meth c D dA (vA h0 z0) 4 True Q 0 0 h0 z0 [] 43 [.int y7] (j y7)) ?_ (fun j8 Hj8 => ?_)
        · intro y7
          exact v_iret C dA_escape_43 (by rw [hQ])
        · refine v_if_ne (tgt := 42) C dA_escape_28 (by decide) ?_ ?_
          · refine v_iconst (v := (-1)) C dA_escape_42 (by decide) ?_
            refine v_lv (lv' := []) [] rfl ?_
            exact Hj8 (-1)
          · refine v_aload_n C dA_escape_31 rfl 0 rfl ?_
            refine v_aload_n C dA_escape_32 rfl 0 rfl ?_
            refine v_getIN C v_cl3 (by decide) in_3 rfl (nf_2 C.2.2.2.2.2.2.2.2.2) dA_escape_33 (fun x9 => ?_)
            refine v_gd fun hO10 => ?_
            refine v_bind fun r11 hr11 => ?_
            refine v_callV0 (N := 1) (As := [.int x9]) (st := []) C (fun _ => trivial) (mT_depthOf l h0 z0 r5 x9 r11 hr11) rfl w_458 w_52 (by decide +kernel) ⟨Nat.le_of_ble_eq_true rfl, Nat.le_of_ble_eq_true rfl⟩ rfl rfl (Nat.le_of_ble_eq_true rfl) ⟨Nat.zero_le _, Nat.zero_le _⟩ w_455 w_456 w_457 v_cl3 rfl hO10 dA_escape_36 ?_
            refine v_goto (tgt := 43) C dA_escape_39 (by decide) ?_
            refine v_lv (lv' := []) [] rfl ?_
            exact Hj8 r11
      · refine v_lv (lv' := []) [] rfl ?_
        exact Hj2
