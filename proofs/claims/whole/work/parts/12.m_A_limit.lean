theorem dA_limit_0 : decode prog_1_method_3_code 0 = .ok (.iload_n 1, 1) := by decide +kernel
theorem dA_limit_1 : decode prog_1_method_3_code 1 = .ok (.bipush 8, 2) := by decide +kernel
theorem dA_limit_3 : decode prog_1_method_3_code 3 = .ok (.if_icmp .lt 9, 3) := by decide +kernel
theorem dA_limit_6 : decode prog_1_method_3_code 6 = .ok (.iload_n 1, 1) := by decide +kernel
theorem dA_limit_7 : decode prog_1_method_3_code 7 = .ok (.ldc 96, 2) := by decide +kernel
theorem dA_limit_9 : decode prog_1_method_3_code 9 = .ok (.if_icmp .le 6, 3) := by decide +kernel
theorem dA_limit_12 : decode prog_1_method_3_code 12 = .ok (.bipush (-3), 2) := by decide +kernel
theorem dA_limit_14 : decode prog_1_method_3_code 14 = .ok (.ireturn, 1) := by decide +kernel
theorem dA_limit_15 : decode prog_1_method_3_code 15 = .ok (.aload_n 0, 1) := by decide +kernel
theorem dA_limit_16 : decode prog_1_method_3_code 16 = .ok (.getfield 36, 3) := by decide +kernel
theorem dA_limit_19 : decode prog_1_method_3_code 19 = .ok (.istore_n 2, 1) := by decide +kernel
theorem dA_limit_20 : decode prog_1_method_3_code 20 = .ok (.aload_n 0, 1) := by decide +kernel
theorem dA_limit_21 : decode prog_1_method_3_code 21 = .ok (.iload_n 1, 1) := by decide +kernel
theorem dA_limit_22 : decode prog_1_method_3_code 22 = .ok (.putfield 36, 3) := by decide +kernel
theorem dA_limit_25 : decode prog_1_method_3_code 25 = .ok (.iload_n 2, 1) := by decide +kernel
theorem dA_limit_26 : decode prog_1_method_3_code 26 = .ok (.ireturn, 1) := by decide +kernel
def FA_limit (h0 : Hp) (a0 : Nat) (p1 : Int32) : Option (Hp × Int32) :=
  jn (some (h0, (-3)))
  (fun (j1 : Option (Hp × Int32)) =>
  if p1 < 8 then
    (j1)
  else
    (if p1 ≤ 100000 then
      (gI h0 a0 4 9 (fun x2 =>
      pF h0 a0 4 9 (.int p1) (fun h3 =>
      some (h3, x2))))
    else
      (j1)))
set_option maxRecDepth 100000 in
set_option maxHeartbeats 4000000 in
theorem mA_limit (l : Launch) (h0 : Hp) (z0 : Nat) (a0 : Nat) (p1 : Int32) (r : (Hp × Int32)) (hr : FA_limit h0 a0 p1 = some r) : vM False l yA_limit (Cond.code yA_limit prog_1_method_3_code 3 (some (.int)) :: gW) 0 [.ref a0, .int p1] h0 z0 r.1 z0 (some (.int r.2)) 0 0 := by
  refine vM.of (by decide) rfl (Nat.le_of_ble_eq_true rfl) ?_
  intro p e s m args below meth c D dA C hin2
  refine (?_ : vO p l e (vR 0 0 0) s m args below meth c D dA (vA h0 z0) 3 False (fun r : (Hp × Int32) => MQ below (vQc False h0 z0 D dA r.1 z0 (some (.int r.2))) args s 0 0 (vAr False h0 z0)) 0 0 h0 z0 [(0, .ref a0), (1, .int p1)] 0 [] (FA_limit h0 a0 p1)) r hr
  obtain ⟨Q, hQ⟩ : ∃ Q : (Hp × Int32) → State → Prop, Q = (fun r : (Hp × Int32) => MQ below (vQc False h0 z0 D dA r.1 z0 (some (.int r.2))) args s 0 0 (vAr False h0 z0)) := ⟨_, rfl⟩
  rw [← hQ]
  unfold FA_limit
  refine v_iload_n C dA_limit_0 rfl 1 rfl ?_
  refine v_bipush (v := 8) C dA_limit_1 (by decide) ?_
  refine v_jn (fun (j : Option (Hp × Int32)) => vO p l e (vR 0 0 0) s m args below meth c D dA (vA h0 z0) 3 False Q 0 0 h0 z0 [] 12 [] j) ?_ (fun j1 Hj1 => ?_)
  · refine v_bipush (v := (-3)) C dA_limit_12 (by decide) ?_
    exact v_iret C dA_limit_14 (by rw [hQ])
  · refine v_icmp_lt (tgt := 12) C dA_limit_3 (by decide) ?_ ?_
    · refine v_lv (lv' := []) [] rfl ?_
      exact Hj1
    · refine v_iload_n C dA_limit_6 rfl 1 rfl ?_
      refine v_ldc (v := 100000) C w_265 dA_limit_7 ?_
      refine v_icmp_le (tgt := 15) C dA_limit_9 (by decide) ?_ ?_
      · refine v_aload_n C dA_limit_15 rfl 0 rfl ?_
        refine v_getI C v_cl4 (by decide) in_4 rfl w_210 dA_limit_16 (fun x2 => ?_)
        refine v_istore_n (lv' := [(0, .ref a0), (1, .int p1), (2, .int x2)]) C dA_limit_19 rfl (by decide) [1, 2, 0] rfl ?_
        refine v_aload_n C dA_limit_20 rfl 0 rfl ?_
        refine v_iload_n C dA_limit_21 rfl 1 rfl ?_
        refine v_put C v_cl4 (by decide) in_4 ty_4 ty_4_ok nm_4 rfl w_210 rfl (ty := .int) (by decide +kernel) rfl rfl dA_limit_22 (fun h3 => ?_)
        refine v_iload_n C dA_limit_25 rfl 2 rfl ?_
        exact v_iret C dA_limit_26 (by rw [hQ])
      · refine v_lv (lv' := []) [] rfl ?_
        exact Hj1
theorem dA_isSign_0 : decode prog_1_method_28_code 0 = .ok (.iload_n 1, 1) := by decide +kernel
theorem dA_isSign_1 : decode prog_1_method_28_code 1 = .ok (.ifCond .lt 15, 3) := by decide +kernel
theorem dA_isSign_4 : decode prog_1_method_28_code 4 = .ok (.iload_n 1, 1) := by decide +kernel
theorem dA_isSign_5 : decode prog_1_method_28_code 5 = .ok (.aload_n 0, 1) := by decide +kernel
theorem dA_isSign_6 : decode prog_1_method_28_code 6 = .ok (.getfield 55, 3) := by decide +kernel
theorem dA_isSign_9 : decode prog_1_method_28_code 9 = .ok (.if_icmp .ge 7, 3) := by decide +kernel
theorem dA_isSign_12 : decode prog_1_method_28_code 12 = .ok (.iconst 1, 1) := by decide +kernel
theorem dA_isSign_13 : decode prog_1_method_28_code 13 = .ok (.goto 4, 3) := by decide +kernel
theorem dA_isSign_16 : decode prog_1_method_28_code 16 = .ok (.iconst 0, 1) := by decide +kernel
theorem dA_isSign_17 : decode prog_1_method_28_code 17 = .ok (.ireturn, 1) := by decide +kernel
def FA_isSign (h0 : Hp) (a0 : Nat) (p1 : Int32) : Option Int32 :=
  jn (fun (y1 : Int32) =>
  gd (y1 = 0 ∨ y1 = 1) (some y1))
  (fun (j2 : Int32 → Option Int32) =>
  jn (j2 0)
  (fun (j3 : Option Int32) =>
  if p1 < 0 then
    (j3)
  else
    (gI h0 a0 4 0 (fun x4 =>
    if x4 ≤ p1 then
      (j3)
    else
      (j2 1)))))
set_option maxRecDepth 100000 in
set_option maxHeartbeats 4000000 in
theorem mA_isSign (l : Launch) (h0 : Hp) (z0 : Nat) (a0 : Nat) (p1 : Int32) (r : Int32) (hr : FA_isSign h0 a0 p1 = some r) : vM True l yA_isSign (Cond.code yA_isSign prog_1_method_28_code 2 (some (.boolean)) :: gW) 0 [.ref a0, .int p1] h0 z0 h0 z0 (some (.int r)) 0 0 := by
  refine vM.of (by decide) rfl (Nat.le_of_ble_eq_true rfl) ?_
  intro p e s m args below meth c D dA C hin2
  refine (?_ : vO p l e (vR 0 0 0) s m args below meth c D dA (vA h0 z0) 2 True (fun r : Int32 => MQ below (vQc True h0 z0 D dA h0 z0 (some (.int r))) args s 0 0 (vAr True h0 z0)) 0 0 h0 z0 [(0, .ref a0), (1, .int p1)] 0 [] (FA_isSign h0 a0 p1)) r hr
  obtain ⟨Q, hQ⟩ : ∃ Q : Int32 → State → Prop, Q = (fun r : Int32 => MQ below (vQc True h0 z0 D dA h0 z0 (some (.int r))) args s 0 0 (vAr True h0 z0)) := ⟨_, rfl⟩
  rw [← hQ]
  unfold FA_isSign
  refine v_iload_n C dA_isSign_0 rfl 1 rfl ?_
  refine v_jn (fun (j : Int32 → Option Int32) => ∀ (y1 : Int32), vO p l e (vR 0 0 0) s m args below meth c D dA (vA h0 z0) 2 True Q 0 0 h0 z0 [] 17 [.int y1] (j y1)) ?_ (fun j2 Hj2 => ?_)
  · intro y1
    exact v_zret C dA_isSign_17 (by rw [hQ])
  · refine v_jn (fun (j : Option Int32) => vO p l e (vR 0 0 0) s m args below meth c D dA (vA h0 z0) 2 True Q 0 0 h0 z0 [] 16 [] j) ?_ (fun j3 Hj3 => ?_)
    · refine v_iconst (v := 0) C dA_isSign_16 (by decide) ?_
      exact Hj2 0
    · refine v_if_lt (tgt := 16) C dA_isSign_1 (by decide) ?_ ?_
      · refine v_lv (lv' := []) [] rfl ?_
        exact Hj3
      · refine v_iload_n C dA_isSign_4 rfl 1 rfl ?_
        refine v_aload_n C dA_isSign_5 rfl 0 rfl ?_
        refine v_getI C v_cl4 (by decide) in_4 rfl w_201 dA_isSign_6 (fun x4 => ?_)
        refine v_icmp_ge (tgt := 16) C dA_isSign_9 (by decide) ?_ ?_
        · refine v_lv (lv' := []) [] rfl ?_
          exact Hj3
        · refine v_iconst (v := 1) C dA_isSign_12 (by decide) ?_
          refine v_goto (tgt := 17) C dA_isSign_13 (by decide) ?_
          refine v_lv (lv' := []) [] rfl ?_
          exact Hj2 1
theorem dT_leafOf_0 : decode prog_5_method_8_code 0 = .ok (.iload_n 1, 1) := by decide +kernel
theorem dT_leafOf_1 : decode prog_5_method_8_code 1 = .ok (.ifCond .lt 21, 3) := by decide +kernel
theorem dT_leafOf_4 : decode prog_5_method_8_code 4 = .ok (.iload_n 1, 1) := by decide +kernel
theorem dT_leafOf_5 : decode prog_5_method_8_code 5 = .ok (.aload_n 0, 1) := by decide +kernel
theorem dT_leafOf_6 : decode prog_5_method_8_code 6 = .ok (.getfield 51, 3) := by decide +kernel
theorem dT_leafOf_9 : decode prog_5_method_8_code 9 = .ok (.arraylength, 1) := by decide +kernel
theorem dT_leafOf_10 : decode prog_5_method_8_code 10 = .ok (.if_icmp .ge 12, 3) := by decide +kernel
theorem dT_leafOf_13 : decode prog_5_method_8_code 13 = .ok (.aload_n 0, 1) := by decide +kernel
theorem dT_leafOf_14 : decode prog_5_method_8_code 14 = .ok (.getfield 51, 3) := by decide +kernel
theorem dT_leafOf_17 : decode prog_5_method_8_code 17 = .ok (.iload_n 1, 1) := by decide +kernel
theorem dT_leafOf_18 : decode prog_5_method_8_code 18 = .ok (.iaload, 1) := by decide +kernel
theorem dT_leafOf_19 : decode prog_5_method_8_code 19 = .ok (.goto 4, 3) := by decide +kernel
theorem dT_leafOf_22 : decode prog_5_method_8_code 22 = .ok (.iconst (-1), 1) := by decide +kernel
theorem dT_leafOf_23 : decode prog_5_method_8_code 23 = .ok (.ireturn, 1) := by decide +kernel
def FT_leafOf (h0 : Hp) (a0 : Nat) (p1 : Int32) : Option Int32 :=
  jn (fun (y1 : Int32) =>
  some y1)
  (fun (j2 : Int32 → Option Int32) =>
  jn (j2 (-1))
  (fun (j3 : Option Int32) =>
  if p1 < 0 then
    (j3)
  else
    (gR h0 a0 3 7 (fun a4 =>
    alen h0 a4 0 (fun x5 =>
    if x5 ≤ p1 then
      (j3)
    else
      (gR h0 a0 3 7 (fun a6 =>
      ldI h0 a6 0 p1 (fun x7 =>
      j2 x7))))))))
set_option maxRecDepth 100000 in
set_option maxHeartbeats 4000000 in
theorem mT_leafOf (l : Launch) (h0 : Hp) (z0 : Nat) (a0 : Nat) (p1 : Int32) (r : Int32) (hr : FT_leafOf h0 a0 p1 = some r) : vM True l yT_leafOf (Cond.code yT_leafOf prog_5_method_8_code 2 (some (.int)) :: gW) 0 [.ref a0, .int p1] h0 z0 h0 z0 (some (.int r)) 0 0 := by
  refine vM.of (by decide) rfl (Nat.le_of_ble_eq_true rfl) ?_
  intro p e s m args below meth c D dA C hin2
  refine (?_ : vO p l e (vR 0 0 0) s m args below meth c D dA (vA h0 z0) 2 True (fun r : Int32 => MQ below (vQc True h0 z0 D dA h0 z0 (some (.int r))) args s 0 0 (vAr True h0 z0)) 0 0 h0 z0 [(0, .ref a0), (1, .int p1)] 0 [] (FT_leafOf h0 a0 p1)) r hr
  obtain ⟨Q, hQ⟩ : ∃ Q : Int32 → State → Prop, Q = (fun r : Int32 => MQ below (vQc True h0 z0 D dA h0 z0 (some (.int r))) args s 0 0 (vAr True h0 z0)) := ⟨_, rfl⟩
  rw [← hQ]
  unfold FT_leafOf
  refine v_iload_n C dT_leafOf_0 rfl 1 rfl ?_
  refine v_jn (fun (j : Int32 → Option Int32) => ∀ (y1 : Int32), vO p l e (vR 0 0 0) s m args below meth c D dA (vA h0 z0) 2 True Q 0 0 h0 z0 [] 23 [.int y1] (j y1)) ?_ (fun j2 Hj2 => ?_)
  · intro y1
    exact v_iret C dT_leafOf_23 (by rw [hQ])
  · refine v_jn (fun (j : Option Int32) => vO p l e (vR 0 0 0) s m args below meth c D dA (vA h0 z0) 2 True Q 0 0 h0 z0 [] 22 [] j) ?_ (fun j3 Hj3 => ?_)
    · refine v_iconst (v := (-1)) C dT_leafOf_22 (by decide) ?_
      exact Hj2 (-1)
    · refine v_if_lt (tgt := 22) C dT_leafOf_1 (by decide) ?_ ?_
      · refine v_lv (lv' := []) [] rfl ?_
        exact Hj3
      · refine v_iload_n C dT_leafOf_4 rfl 1 rfl ?_
        refine v_aload_n C dT_leafOf_5 rfl 0 rfl ?_
        refine v_getR C v_cl3 (by decide) in_3 rfl w_167 dT_leafOf_6 (fun a4 => ?_)
        refine v_alen C rfl dT_leafOf_9 (fun x5 => ?_)
        refine v_icmp_ge (tgt := 22) C dT_leafOf_10 (by decide) ?_ ?_
        · refine v_lv (lv' := []) [] rfl ?_
          exact Hj3
        · refine v_aload_n C dT_leafOf_13 rfl 0 rfl ?_
          refine v_getR C v_cl3 (by decide) in_3 rfl w_167 dT_leafOf_14 (fun a6 => ?_)
          refine v_iload_n C dT_leafOf_17 rfl 1 rfl ?_
          refine v_iald C rfl dT_leafOf_18 (fun x7 => ?_)
          refine v_goto (tgt := 23) C dT_leafOf_19 (by decide) ?_
          refine v_lv (lv' := []) [] rfl ?_
          exact Hj2 x7
theorem dT_hasLeafOf_0 : decode prog_5_method_7_code 0 = .ok (.aload_n 0, 1) := by decide +kernel
theorem dT_hasLeafOf_1 : decode prog_5_method_7_code 1 = .ok (.iload_n 1, 1) := by decide +kernel
theorem dT_hasLeafOf_2 : decode prog_5_method_7_code 2 = .ok (.invokevirtual 68, 3) := by decide +kernel
theorem dT_hasLeafOf_5 : decode prog_5_method_7_code 5 = .ok (.iconst (-1), 1) := by decide +kernel
theorem dT_hasLeafOf_6 : decode prog_5_method_7_code 6 = .ok (.if_icmp .eq 7, 3) := by decide +kernel
theorem dT_hasLeafOf_9 : decode prog_5_method_7_code 9 = .ok (.iconst 1, 1) := by decide +kernel
theorem dT_hasLeafOf_10 : decode prog_5_method_7_code 10 = .ok (.goto 4, 3) := by decide +kernel
theorem dT_hasLeafOf_13 : decode prog_5_method_7_code 13 = .ok (.iconst 0, 1) := by decide +kernel
theorem dT_hasLeafOf_14 : decode prog_5_method_7_code 14 = .ok (.ireturn, 1) := by decide +kernel
def FT_hasLeafOf (h0 : Hp) (a0 : Nat) (p1 : Int32) : Option Int32 :=
  gd (isO h0 a0 3 = true) ((FT_leafOf h0 a0 p1).bind (fun r2 =>
  jn (fun (y3 : Int32) =>
  gd (y3 = 0 ∨ y3 = 1) (some y3))
  (fun (j4 : Int32 → Option Int32) =>
  if r2 = (-1) then
    (j4 0)
  else
    (j4 1))))
set_option maxRecDepth 100000 in
set_option maxHeartbeats 4000000 in
theorem mT_hasLeafOf (l : Launch) (h0 : Hp) (z0 : Nat) (a0 : Nat) (p1 : Int32) (r : Int32) (hr : FT_hasLeafOf h0 a0 p1 = some r) : vM True l yT_hasLeafOf (Cond.code yT_hasLeafOf prog_5_method_7_code 2 (some (.boolean)) :: gW) 1 [.ref a0, .int p1] h0 z0 h0 z0 (some (.int r)) 0 0 := by
  refine vM.of (by decide) rfl (Nat.le_of_ble_eq_true rfl) ?_
  intro p e s m args below meth c D dA C hin2
  refine (?_ : vO p l e (vR 1 0 0) s m args below meth c D dA (vA h0 z0) 2 True (fun r : Int32 => MQ below (vQc True h0 z0 D dA h0 z0 (some (.int r))) args s 0 0 (vAr True h0 z0)) 0 0 h0 z0 [(0, .ref a0), (1, .int p1)] 0 [] (FT_hasLeafOf h0 a0 p1)) r hr
  obtain ⟨Q, hQ⟩ : ∃ Q : Int32 → State → Prop, Q = (fun r : Int32 => MQ below (vQc True h0 z0 D dA h0 z0 (some (.int r))) args s 0 0 (vAr True h0 z0)) := ⟨_, rfl⟩
  rw [← hQ]
  unfold FT_hasLeafOf
  refine v_aload_n C dT_hasLeafOf_0 rfl 0 rfl ?_
  refine v_iload_n C dT_hasLeafOf_1 rfl 1 rfl ?_
  refine v_gd fun hO1 => ?_
  refine v_bind fun r2 hr2 => ?_
  refine v_callV0 (N := 1) (As := [.int p1]) (st := []) C (fun _ => trivial) (mT_leafOf l h0 z0 a0 p1 r2 hr2) rfl w_285 w_52 (by decide +kernel) ⟨Nat.le_of_ble_eq_true rfl, Nat.le_of_ble_eq_true rfl⟩ rfl rfl (Nat.le_of_ble_eq_true rfl) ⟨Nat.zero_le _, Nat.zero_le _⟩ w_282 w_283 w_284 v_cl3 rfl hO1 dT_hasLeafOf_2 ?_
  refine v_iconst (v := (-1)) C dT_hasLeafOf_5 (by decide) ?_
  refine v_jn (fun (j : Int32 → Option Int32) => ∀ (y3 : Int32), vO p l e (vR 1 0 0) s m args below meth c D dA (vA h0 z0) 2 True Q 0 0 h0 z0 [] 14 [.int y3] (j y3)) ?_ (fun j4 Hj4 => ?_)
  · intro y3
    exact v_zret C dT_hasLeafOf_14 (by rw [hQ])
  · refine v_icmp_eq (tgt := 13) C dT_hasLeafOf_6 (by decide) ?_ ?_
    · refine v_iconst (v := 0) C dT_hasLeafOf_13 (by decide) ?_
      refine v_lv (lv' := []) [] rfl ?_
      exact Hj4 0
    · refine v_iconst (v := 1) C dT_hasLeafOf_9 (by decide) ?_
      refine v_goto (tgt := 14) C dT_hasLeafOf_10 (by decide) ?_
      refine v_lv (lv' := []) [] rfl ?_
      exact Hj4 1
theorem dT_parentOf_0 : decode prog_5_method_11_code 0 = .ok (.aload_n 0, 1) := by decide +kernel
theorem dT_parentOf_1 : decode prog_5_method_11_code 1 = .ok (.iload_n 1, 1) := by decide +kernel
theorem dT_parentOf_2 : decode prog_5_method_11_code 2 = .ok (.invokevirtual 64, 3) := by decide +kernel
theorem dT_parentOf_5 : decode prog_5_method_11_code 5 = .ok (.ifCond .eq 12, 3) := by decide +kernel
theorem dT_parentOf_8 : decode prog_5_method_11_code 8 = .ok (.aload_n 0, 1) := by decide +kernel
theorem dT_parentOf_9 : decode prog_5_method_11_code 9 = .ok (.getfield 42, 3) := by decide +kernel
theorem dT_parentOf_12 : decode prog_5_method_11_code 12 = .ok (.iload_n 1, 1) := by decide +kernel
theorem dT_parentOf_13 : decode prog_5_method_11_code 13 = .ok (.iaload, 1) := by decide +kernel
theorem dT_parentOf_14 : decode prog_5_method_11_code 14 = .ok (.goto 4, 3) := by decide +kernel
theorem dT_parentOf_17 : decode prog_5_method_11_code 17 = .ok (.iconst (-1), 1) := by decide +kernel
theorem dT_parentOf_18 : decode prog_5_method_11_code 18 = .ok (.ireturn, 1) := by decide +kernel
def FT_parentOf (h0 : Hp) (a0 : Nat) (p1 : Int32) : Option Int32 :=
  gd (isO h0 a0 3 = true) ((FT_hasNode h0 a0 p1).bind (fun r2 =>
  jn (fun (y3 : Int32) =>
  some y3)
  (fun (j4 : Int32 → Option Int32) =>
  if r2 = 0 then
    (j4 (-1))
  else
    (gR h0 a0 3 4 (fun a5 =>
    ldI h0 a5 0 p1 (fun x6 =>
    j4 x6))))))
set_option maxRecDepth 100000 in
set_option maxHeartbeats 4000000 in
theorem mT_parentOf (l : Launch) (h0 : Hp) (z0 : Nat) (a0 : Nat) (p1 : Int32) (r : Int32) (hr : FT_parentOf h0 a0 p1 = some r) : vM True l yT_parentOf (Cond.code yT_parentOf prog_5_method_11_code 2 (some (.int)) :: gW) 1 [.ref a0, .int p1] h0 z0 h0 z0 (some (.int r)) 0 0 := by
  refine vM.of (by decide) rfl (Nat.le_of_ble_eq_true rfl) ?_
  intro p e s m args below meth c D dA C hin2
  refine (?_ : vO p l e (vR 1 0 0) s m args below meth c D dA (vA h0 z0) 2 True (fun r : Int32 => MQ below (vQc True h0 z0 D dA h0 z0 (some (.int r))) args s 0 0 (vAr True h0 z0)) 0 0 h0 z0 [(0, .ref a0), (1, .int p1)] 0 [] (FT_parentOf h0 a0 p1)) r hr
  obtain ⟨Q, hQ⟩ : ∃ Q : Int32 → State → Prop, Q = (fun r : Int32 => MQ below (vQc True h0 z0 D dA h0 z0 (some (.int r))) args s 0 0 (vAr True h0 z0)) := ⟨_, rfl⟩
  rw [← hQ]
  unfold FT_parentOf
  refine v_aload_n C dT_parentOf_0 rfl 0 rfl ?_
  refine v_iload_n C dT_parentOf_1 rfl 1 rfl ?_
  refine v_gd fun hO1 => ?_
  refine v_bind fun r2 hr2 => ?_
  refine v_callV0 (N := 1) (As := [.int p1]) (st := []) C (fun _ => trivial) (mT_hasNode l h0 z0 a0 p1 r2 hr2) rfl w_159 w_52 (by decide +kernel) ⟨Nat.le_of_ble_eq_true rfl, Nat.le_of_ble_eq_true rfl⟩ rfl rfl (Nat.le_of_ble_eq_true rfl) ⟨Nat.zero_le _, Nat.zero_le _⟩ w_156 w_157 w_158 v_cl3 rfl hO1 dT_parentOf_2 ?_
  refine v_jn (fun (j : Int32 → Option Int32) => ∀ (y3 : Int32), vO p l e (vR 1 0 0) s m args below meth c D dA (vA h0 z0) 2 True Q 0 0 h0 z0 [] 18 [.int y3] (j y3)) ?_ (fun j4 Hj4 => ?_)
  · intro y3
    exact v_iret C dT_parentOf_18 (by rw [hQ])
  · refine v_if_eq (tgt := 17) C dT_parentOf_5 (by decide) ?_ ?_
    · refine v_iconst (v := (-1)) C dT_parentOf_17 (by decide) ?_
      refine v_lv (lv' := []) [] rfl ?_
      exact Hj4 (-1)
    · refine v_aload_n C dT_parentOf_8 rfl 0 rfl ?_
      refine v_getR C v_cl3 (by decide) in_3 rfl w_164 dT_parentOf_9 (fun a5 => ?_)
      refine v_iload_n C dT_parentOf_12 rfl 1 rfl ?_
      refine v_iald C rfl dT_parentOf_13 (fun x6 => ?_)
      refine v_goto (tgt := 18) C dT_parentOf_14 (by decide) ?_
      refine v_lv (lv' := []) [] rfl ?_
      exact Hj4 x6
theorem dT_childOf_0 : decode prog_5_method_12_code 0 = .ok (.aload_n 0, 1) := by decide +kernel
theorem dT_childOf_1 : decode prog_5_method_12_code 1 = .ok (.iload_n 1, 1) := by decide +kernel
theorem dT_childOf_2 : decode prog_5_method_12_code 2 = .ok (.invokevirtual 64, 3) := by decide +kernel
theorem dT_childOf_5 : decode prog_5_method_12_code 5 = .ok (.ifCond .ne 5, 3) := by decide +kernel
theorem dT_childOf_8 : decode prog_5_method_12_code 8 = .ok (.iconst (-1), 1) := by decide +kernel
theorem dT_childOf_9 : decode prog_5_method_12_code 9 = .ok (.ireturn, 1) := by decide +kernel
theorem dT_childOf_10 : decode prog_5_method_12_code 10 = .ok (.iload_n 2, 1) := by decide +kernel
theorem dT_childOf_11 : decode prog_5_method_12_code 11 = .ok (.ifCond .ne 12, 3) := by decide +kernel
theorem dT_childOf_14 : decode prog_5_method_12_code 14 = .ok (.aload_n 0, 1) := by decide +kernel
theorem dT_childOf_15 : decode prog_5_method_12_code 15 = .ok (.getfield 45, 3) := by decide +kernel
theorem dT_childOf_18 : decode prog_5_method_12_code 18 = .ok (.iload_n 1, 1) := by decide +kernel
theorem dT_childOf_19 : decode prog_5_method_12_code 19 = .ok (.iaload, 1) := by decide +kernel
theorem dT_childOf_20 : decode prog_5_method_12_code 20 = .ok (.goto 9, 3) := by decide +kernel
theorem dT_childOf_23 : decode prog_5_method_12_code 23 = .ok (.aload_n 0, 1) := by decide +kernel
theorem dT_childOf_24 : decode prog_5_method_12_code 24 = .ok (.getfield 48, 3) := by decide +kernel
theorem dT_childOf_27 : decode prog_5_method_12_code 27 = .ok (.iload_n 1, 1) := by decide +kernel
theorem dT_childOf_28 : decode prog_5_method_12_code 28 = .ok (.iaload, 1) := by decide +kernel
theorem dT_childOf_29 : decode prog_5_method_12_code 29 = .ok (.ireturn, 1) := by decide +kernel
def FT_childOf (h0 : Hp) (a0 : Nat) (p1 : Int32) (p2 : Int32) : Option Int32 :=
  gd (isO h0 a0 3 = true) ((FT_hasNode h0 a0 p1).bind (fun r2 =>
  if r2 = 0 then
    (some (-1))
  else
    (jn (fun (y3 : Int32) =>
    some y3)
    (fun (j4 : Int32 → Option Int32) =>
    if p2 = 0 then
      (gR h0 a0 3 5 (fun a7 =>
      ldI h0 a7 0 p1 (fun x8 =>
      j4 x8)))
    else
      (gR h0 a0 3 6 (fun a5 =>
      ldI h0 a5 0 p1 (fun x6 =>
      j4 x6)))))))
set_option maxRecDepth 100000 in
set_option maxHeartbeats 4000000 in
theorem mT_childOf (l : Launch) (h0 : Hp) (z0 : Nat) (a0 : Nat) (p1 : Int32) (p2 : Int32) (r : Int32) (hr : FT_childOf h0 a0 p1 p2 = some r) : vM True l yT_childOf (Cond.code yT_childOf prog_5_method_12_code 3 (some (.int)) :: gW) 1 [.ref a0, .int p1, .int p2] h0 z0 h0 z0 (some (.int r)) 0 0 := by
  refine vM.of (by decide) rfl (Nat.le_of_ble_eq_true rfl) ?_
  intro p e s m args below meth c D dA C hin2
  refine (?_ : vO p l e (vR 1 0 0) s m args below meth c D dA (vA h0 z0) 3 True (fun r : Int32 => MQ below (vQc True h0 z0 D dA h0 z0 (some (.int r))) args s 0 0 (vAr True h0 z0)) 0 0 h0 z0 [(0, .ref a0), (1, .int p1), (2, .int p2)] 0 [] (FT_childOf h0 a0 p1 p2)) r hr
  obtain ⟨Q, hQ⟩ : ∃ Q : Int32 → State → Prop, Q = (fun r : Int32 => MQ below (vQc True h0 z0 D dA h0 z0 (some (.int r))) args s 0 0 (vAr True h0 z0)) := ⟨_, rfl⟩
  rw [← hQ]
  unfold FT_childOf
  refine v_aload_n C dT_childOf_0 rfl 0 rfl ?_
  refine v_iload_n C dT_childOf_1 rfl 1 rfl ?_
  refine v_gd fun hO1 => ?_
  refine v_bind fun r2 hr2 => ?_
  refine v_callV0 (N := 1) (As := [.int p1]) (st := []) C (fun _ => trivial) (mT_hasNode l h0 z0 a0 p1 r2 hr2) rfl w_159 w_52 (by decide +kernel) ⟨Nat.le_of_ble_eq_true rfl, Nat.le_of_ble_eq_true rfl⟩ rfl rfl (Nat.le_of_ble_eq_true rfl) ⟨Nat.zero_le _, Nat.zero_le _⟩ w_156 w_157 w_158 v_cl3 rfl hO1 dT_childOf_2 ?_
  refine v_if_ne (tgt := 10) C dT_childOf_5 (by decide) ?_ ?_
  · refine v_iload_n C dT_childOf_10 rfl 2 rfl ?_
    refine v_jn (fun (j : Int32 → Option Int32) => ∀ (y3 : Int32), vO p l e (vR 1 0 0) s m args below meth c D dA (vA h0 z0) 3 True Q 0 0 h0 z0 [] 29 [.int y3] (j y3)) ?_ (fun j4 Hj4 => ?_)
    · intro y3
      exact v_iret C dT_childOf_29 (by rw [hQ])
    · refine v_if_ne (tgt := 23) C dT_childOf_11 (by decide) ?_ ?_
      · refine v_aload_n C dT_childOf_23 rfl 0 rfl ?_
        refine v_getR C v_cl3 (by decide) in_3 rfl w_166 dT_childOf_24 (fun a5 => ?_)
        refine v_iload_n C dT_childOf_27 rfl 1 rfl ?_
        refine v_iald C rfl dT_childOf_28 (fun x6 => ?_)
        refine v_lv (lv' := []) [] rfl ?_
        exact Hj4 x6
      · refine v_aload_n C dT_childOf_14 rfl 0 rfl ?_
        refine v_getR C v_cl3 (by decide) in_3 rfl w_165 dT_childOf_15 (fun a7 => ?_)
        refine v_iload_n C dT_childOf_18 rfl 1 rfl ?_
        refine v_iald C rfl dT_childOf_19 (fun x8 => ?_)
        refine v_goto (tgt := 29) C dT_childOf_20 (by decide) ?_
        refine v_lv (lv' := []) [] rfl ?_
        exact Hj4 x8
  · refine v_iconst (v := (-1)) C dT_childOf_8 (by decide) ?_
    exact v_iret C dT_childOf_9 (by rw [hQ])
theorem dC_append_0 : decode prog_2_method_3_code 0 = .ok (.aload_n 0, 1) := by decide +kernel
theorem dC_append_1 : decode prog_2_method_3_code 1 = .ok (.getfield 9, 3) := by decide +kernel
theorem dC_append_4 : decode prog_2_method_3_code 4 = .ok (.aload_n 0, 1) := by decide +kernel
theorem dC_append_5 : decode prog_2_method_3_code 5 = .ok (.getfield 15, 3) := by decide +kernel
theorem dC_append_8 : decode prog_2_method_3_code 8 = .ok (.arraylength, 1) := by decide +kernel
theorem dC_append_9 : decode prog_2_method_3_code 9 = .ok (.if_icmp .ge 23, 3) := by decide +kernel
theorem dC_append_12 : decode prog_2_method_3_code 12 = .ok (.aload_n 0, 1) := by decide +kernel
theorem dC_append_13 : decode prog_2_method_3_code 13 = .ok (.getfield 15, 3) := by decide +kernel
theorem dC_append_16 : decode prog_2_method_3_code 16 = .ok (.aload_n 0, 1) := by decide +kernel
theorem dC_append_17 : decode prog_2_method_3_code 17 = .ok (.getfield 9, 3) := by decide +kernel
theorem dC_append_20 : decode prog_2_method_3_code 20 = .ok (.iload_n 1, 1) := by decide +kernel
theorem dC_append_21 : decode prog_2_method_3_code 21 = .ok (.iastore, 1) := by decide +kernel
theorem dC_append_22 : decode prog_2_method_3_code 22 = .ok (.aload_n 0, 1) := by decide +kernel
theorem dC_append_23 : decode prog_2_method_3_code 23 = .ok (.dup, 1) := by decide +kernel
theorem dC_append_24 : decode prog_2_method_3_code 24 = .ok (.getfield 9, 3) := by decide +kernel
theorem dC_append_27 : decode prog_2_method_3_code 27 = .ok (.iconst 1, 1) := by decide +kernel
theorem dC_append_28 : decode prog_2_method_3_code 28 = .ok (.iadd, 1) := by decide +kernel
theorem dC_append_29 : decode prog_2_method_3_code 29 = .ok (.putfield 9, 3) := by decide +kernel
theorem dC_append_32 : decode prog_2_method_3_code 32 = .ok (.return_, 1) := by decide +kernel
def FC_append (h0 : Hp) (a0 : Nat) (p1 : Int32) : Option Hp :=
  gI h0 a0 0 1 (fun x1 =>
  gR h0 a0 0 0 (fun a2 =>
  alen h0 a2 0 (fun x3 =>
  jn (fun (h4 : Hp) =>
  some h4)
  (fun (j5 : Hp → Option Hp) =>
  if x3 ≤ x1 then
    (j5 h0)
  else
    (gR h0 a0 0 0 (fun a6 =>
    gI h0 a0 0 1 (fun x7 =>
    stI h0 a6 0 x7 p1 (fun h8 =>
    gI h8 a0 0 1 (fun x9 =>
    pF h8 a0 0 1 (.int (x9 + 1)) (fun h10 =>
    j5 h10))))))))))
set_option maxRecDepth 100000 in
set_option maxHeartbeats 4000000 in
theorem mC_append (l : Launch) (h0 : Hp) (z0 : Nat) (a0 : Nat) (p1 : Int32) (r : Hp) (hr : FC_append h0 a0 p1 = some r) : vM False l yC_append (Cond.code yC_append prog_2_method_3_code 2 none :: gW) 0 [.ref a0, .int p1] h0 z0 r z0 none 0 0 := by
  refine vM.of (by decide) rfl (Nat.le_of_ble_eq_true rfl) ?_
  intro p e s m args below meth c D dA C hin2
  refine (?_ : vO p l e (vR 0 0 0) s m args below meth c D dA (vA h0 z0) 2 False (fun r : Hp => MQ below (vQc False h0 z0 D dA r z0 none) args s 0 0 (vAr False h0 z0)) 0 0 h0 z0 [(0, .ref a0), (1, .int p1)] 0 [] (FC_append h0 a0 p1)) r hr
  obtain ⟨Q, hQ⟩ : ∃ Q : Hp → State → Prop, Q = (fun r : Hp => MQ below (vQc False h0 z0 D dA r z0 none) args s 0 0 (vAr False h0 z0)) := ⟨_, rfl⟩
  rw [← hQ]
  unfold FC_append
  refine v_aload_n C dC_append_0 rfl 0 rfl ?_
  refine v_getI C v_cl0 (by decide) in_0 rfl w_112 dC_append_1 (fun x1 => ?_)
  refine v_aload_n C dC_append_4 rfl 0 rfl ?_
  refine v_getR C v_cl0 (by decide) in_0 rfl w_111 dC_append_5 (fun a2 => ?_)
  refine v_alen C rfl dC_append_8 (fun x3 => ?_)
  refine v_jn (fun (j : Hp → Option Hp) => ∀ (h4 : Hp), vO p l e (vR 0 0 0) s m args below meth c D dA (vA h0 z0) 2 False Q 0 0 h4 z0 [] 32 [] (j h4)) ?_ (fun j5 Hj5 => ?_)
  · intro h4
    exact v_vret C dC_append_32 (by rw [hQ])
  · refine v_icmp_ge (tgt := 32) C dC_append_9 (by decide) ?_ ?_
    · refine v_lv (lv' := []) [] rfl ?_
      exact Hj5 h0
    · refine v_aload_n C dC_append_12 rfl 0 rfl ?_
      refine v_getR C v_cl0 (by decide) in_0 rfl w_111 dC_append_13 (fun a6 => ?_)
      refine v_aload_n C dC_append_16 rfl 0 rfl ?_
      refine v_getI C v_cl0 (by decide) in_0 rfl w_112 dC_append_17 (fun x7 => ?_)
      refine v_iload_n C dC_append_20 rfl 1 rfl ?_
      refine v_iast C rfl dC_append_21 (fun h8 => ?_)
      refine v_aload_n C dC_append_22 rfl 0 rfl ?_
      refine v_dup C dC_append_23 rfl ?_
      refine v_getI C v_cl0 (by decide) in_0 rfl w_112 dC_append_24 (fun x9 => ?_)
      refine v_iconst (v := 1) C dC_append_27 (by decide) ?_
      refine v_iadd C dC_append_28 ?_
      refine v_put C v_cl0 (by decide) in_0 ty_0 ty_0_ok nm_0 rfl w_112 rfl (ty := .int) (by decide +kernel) rfl rfl dC_append_29 (fun h10 => ?_)
      refine v_lv (lv' := []) [] rfl ?_
      exact Hj5 h10
theorem dC_reverse_0 : decode prog_2_method_5_code 0 = .ok (.iconst 0, 1) := by decide +kernel
theorem dC_reverse_1 : decode prog_2_method_5_code 1 = .ok (.istore_n 1, 1) := by decide +kernel
theorem dC_reverse_2 : decode prog_2_method_5_code 2 = .ok (.aload_n 0, 1) := by decide +kernel
theorem dC_reverse_3 : decode prog_2_method_5_code 3 = .ok (.getfield 9, 3) := by decide +kernel
theorem dC_reverse_6 : decode prog_2_method_5_code 6 = .ok (.iconst 1, 1) := by decide +kernel
theorem dC_reverse_7 : decode prog_2_method_5_code 7 = .ok (.isub, 1) := by decide +kernel
theorem dC_reverse_8 : decode prog_2_method_5_code 8 = .ok (.istore_n 2, 1) := by decide +kernel
theorem dC_reverse_9 : decode prog_2_method_5_code 9 = .ok (.iload_n 1, 1) := by decide +kernel
theorem dC_reverse_10 : decode prog_2_method_5_code 10 = .ok (.iload_n 2, 1) := by decide +kernel
theorem dC_reverse_11 : decode prog_2_method_5_code 11 = .ok (.if_icmp .ge 38, 3) := by decide +kernel
theorem dC_reverse_14 : decode prog_2_method_5_code 14 = .ok (.aload_n 0, 1) := by decide +kernel
theorem dC_reverse_15 : decode prog_2_method_5_code 15 = .ok (.getfield 15, 3) := by decide +kernel
theorem dC_reverse_18 : decode prog_2_method_5_code 18 = .ok (.iload_n 1, 1) := by decide +kernel
theorem dC_reverse_19 : decode prog_2_method_5_code 19 = .ok (.iaload, 1) := by decide +kernel
theorem dC_reverse_20 : decode prog_2_method_5_code 20 = .ok (.istore_n 3, 1) := by decide +kernel
theorem dC_reverse_21 : decode prog_2_method_5_code 21 = .ok (.aload_n 0, 1) := by decide +kernel
theorem dC_reverse_22 : decode prog_2_method_5_code 22 = .ok (.getfield 15, 3) := by decide +kernel
theorem dC_reverse_25 : decode prog_2_method_5_code 25 = .ok (.iload_n 1, 1) := by decide +kernel
theorem dC_reverse_26 : decode prog_2_method_5_code 26 = .ok (.aload_n 0, 1) := by decide +kernel
theorem dC_reverse_27 : decode prog_2_method_5_code 27 = .ok (.getfield 15, 3) := by decide +kernel
theorem dC_reverse_30 : decode prog_2_method_5_code 30 = .ok (.iload_n 2, 1) := by decide +kernel
theorem dC_reverse_31 : decode prog_2_method_5_code 31 = .ok (.iaload, 1) := by decide +kernel
theorem dC_reverse_32 : decode prog_2_method_5_code 32 = .ok (.iastore, 1) := by decide +kernel
theorem dC_reverse_33 : decode prog_2_method_5_code 33 = .ok (.aload_n 0, 1) := by decide +kernel
theorem dC_reverse_34 : decode prog_2_method_5_code 34 = .ok (.getfield 15, 3) := by decide +kernel
theorem dC_reverse_37 : decode prog_2_method_5_code 37 = .ok (.iload_n 2, 1) := by decide +kernel
theorem dC_reverse_38 : decode prog_2_method_5_code 38 = .ok (.iload_n 3, 1) := by decide +kernel
theorem dC_reverse_39 : decode prog_2_method_5_code 39 = .ok (.iastore, 1) := by decide +kernel
theorem dC_reverse_40 : decode prog_2_method_5_code 40 = .ok (.iinc 1 1, 3) := by decide +kernel
theorem dC_reverse_43 : decode prog_2_method_5_code 43 = .ok (.iinc 2 (-1), 3) := by decide +kernel
theorem dC_reverse_46 : decode prog_2_method_5_code 46 = .ok (.goto (-37), 3) := by decide +kernel
theorem dC_reverse_49 : decode prog_2_method_5_code 49 = .ok (.return_, 1) := by decide +kernel
def LC_reverse_9 (a0 : Nat) (K3 : Hp → Option Hp) (rec7 : Hp → Int32 → Int32 → Option Hp) (h4 : Hp) (x5 : Int32) (x6 : Int32) : Option Hp :=
  if x6 ≤ x5 then
    (K3 h4)
  else
    (gR h4 a0 0 0 (fun a8 =>
    ldI h4 a8 0 x5 (fun x9 =>
    gR h4 a0 0 0 (fun a10 =>
    gR h4 a0 0 0 (fun a11 =>
    ldI h4 a11 0 x6 (fun x12 =>
    stI h4 a10 0 x5 x12 (fun h13 =>
    gR h13 a0 0 0 (fun a14 =>
    stI h13 a14 0 x6 x9 (fun h15 =>
    rec7 h15 (x5 + 1) (x6 + (-1)))))))))))
def FC_reverse (h0 : Hp) (a0 : Nat) : Option Hp :=
  gI h0 a0 0 1 (fun x1 =>
  jn (fun (h2 : Hp) =>
  some h2)
  (fun (K3 : Hp → Option Hp) =>
  lpG (fun _ _ _ => none) fu (LC_reverse_9 a0 K3) h0 0 (x1 - 1)))
set_option maxRecDepth 100000 in
set_option maxHeartbeats 4000000 in
theorem mC_reverse (l : Launch) (h0 : Hp) (z0 : Nat) (a0 : Nat) (r : Hp) (hr : FC_reverse h0 a0 = some r) : vM False l yC_reverse (Cond.code yC_reverse prog_2_method_5_code 4 none :: gW) 0 [.ref a0] h0 z0 r z0 none 0 0 := by
  refine vM.of (by decide) rfl (Nat.le_of_ble_eq_true rfl) ?_
  intro p e s m args below meth c D dA C hin2
  refine (?_ : vO p l e (vR 0 0 0) s m args below meth c D dA (vA h0 z0) 4 False (fun r : Hp => MQ below (vQc False h0 z0 D dA r z0 none) args s 0 0 (vAr False h0 z0)) 0 0 h0 z0 [(0, .ref a0)] 0 [] (FC_reverse h0 a0)) r hr
  obtain ⟨Q, hQ⟩ : ∃ Q : Hp → State → Prop, Q = (fun r : Hp => MQ below (vQc False h0 z0 D dA r z0 none) args s 0 0 (vAr False h0 z0)) := ⟨_, rfl⟩
  rw [← hQ]
  unfold FC_reverse
  refine v_iconst (v := 0) C dC_reverse_0 (by decide) ?_
  refine v_istore_n (lv' := [(0, .ref a0), (1, .int 0)]) C dC_reverse_1 rfl (by decide) [1, 0] rfl ?_
  refine v_aload_n C dC_reverse_2 rfl 0 rfl ?_
  refine v_getI C v_cl0 (by decide) in_0 rfl w_112 dC_reverse_3 (fun x1 => ?_)
  refine v_iconst (v := 1) C dC_reverse_6 (by decide) ?_
  refine v_isub C dC_reverse_7 ?_
  refine v_istore_n (lv' := [(0, .ref a0), (1, .int 0), (2, .int (x1 - 1))]) C dC_reverse_8 rfl (by decide) [1, 2, 0] rfl ?_
  refine v_jn (fun (j : Hp → Option Hp) => ∀ (h2 : Hp), vO p l e (vR 0 0 0) s m args below meth c D dA (vA h0 z0) 4 False Q 0 0 h2 z0 [] 49 [] (j h2)) ?_ (fun K3 HK3 => ?_)
  · intro h2
    exact v_vret C dC_reverse_49 (by rw [hQ])
  · refine lpG_ind (bot := (fun _ _ _ => none)) (B := LC_reverse_9 a0 K3) (fun (r : Hp → Int32 → Int32 → Option Hp) => ∀ (h4 : Hp), ∀ (x5 : Int32), ∀ (x6 : Int32), vO p l e (vR 0 0 0) s m args below meth c D dA (vA h0 z0) 4 False Q 0 0 h4 z0 [(0, .ref a0), (1, .int x5), (2, .int x6)] 9 [] (r h4 x5 x6)) ?_ ?_ fu h0 0 (x1 - 1)
    · intro h4 x5 x6
      exact v_none
    · intro rec7 Hrec7 h4 x5 x6
      unfold LC_reverse_9
      refine v_iload_n C dC_reverse_9 rfl 1 rfl ?_
      refine v_iload_n C dC_reverse_10 rfl 2 rfl ?_
      refine v_icmp_ge (tgt := 49) C dC_reverse_11 (by decide) ?_ ?_
      · refine v_lv (lv' := []) [] rfl ?_
        exact HK3 h4
      · refine v_aload_n C dC_reverse_14 rfl 0 rfl ?_
        refine v_getR C v_cl0 (by decide) in_0 rfl w_111 dC_reverse_15 (fun a8 => ?_)
        refine v_iload_n C dC_reverse_18 rfl 1 rfl ?_
        refine v_iald C rfl dC_reverse_19 (fun x9 => ?_)
        refine v_istore_n (lv' := [(0, .ref a0), (1, .int x5), (2, .int x6), (3, .int x9)]) C dC_reverse_20 rfl (by decide) [1, 2, 3, 0] rfl ?_
        refine v_aload_n C dC_reverse_21 rfl 0 rfl ?_
        refine v_getR C v_cl0 (by decide) in_0 rfl w_111 dC_reverse_22 (fun a10 => ?_)
        refine v_iload_n C dC_reverse_25 rfl 1 rfl ?_
        refine v_aload_n C dC_reverse_26 rfl 0 rfl ?_
        refine v_getR C v_cl0 (by decide) in_0 rfl w_111 dC_reverse_27 (fun a11 => ?_)
        refine v_iload_n C dC_reverse_30 rfl 2 rfl ?_
        refine v_iald C rfl dC_reverse_31 (fun x12 => ?_)
        refine v_iast C rfl dC_reverse_32 (fun h13 => ?_)
        refine v_aload_n C dC_reverse_33 rfl 0 rfl ?_
        refine v_getR C v_cl0 (by decide) in_0 rfl w_111 dC_reverse_34 (fun a14 => ?_)
        refine v_iload_n C dC_reverse_37 rfl 2 rfl ?_
        refine v_iload_n C dC_reverse_38 rfl 3 rfl ?_
        refine v_iast C rfl dC_reverse_39 (fun h15 => ?_)
        refine v_iinc (v := (x5 + 1)) (lv' := [(0, .ref a0), (1, .int (x5 + 1)), (2, .int x6)]) C dC_reverse_40 1 rfl rfl (by decide) [1, 0, 2] rfl ?_
        refine v_iinc (v := (x6 + (-1))) (lv' := [(0, .ref a0), (1, .int (x5 + 1)), (2, .int (x6 + (-1)))]) C dC_reverse_43 2 rfl rfl (by decide) [1, 2, 0] rfl ?_
        refine v_goto (tgt := 9) C dC_reverse_46 (by decide) ?_
        exact Hrec7 h15 (x5 + 1) (x6 + (-1))
