theorem dA_isSign_0 : decode prog_1_method_28_code 0 = .ok (.iload_n 1, 1) := by decide +kernel
theorem dA_isSign_1 : decode prog_1_method_28_code 1 = .ok (.ifCond .lt 15, 3) := by decide +kernel
theorem dA_isSign_4 : decode prog_1_method_28_code 4 = .ok (.iload_n 1, 1) := by decide +kernel
theorem dA_isSign_5 : decode prog_1_method_28_code 5 = .ok (.aload_n 0, 1) := by decide +kernel
theorem dA_isSign_6 : decode prog_1_method_28_code 6 = .ok (.getfield 55, 3) := by decide +kernel
theorem dA_isSign_9 : decode prog_1_method_28_code 9 = .ok (.if_icmp .ge 7, 3) := by decide +kernel
theorem dA_isSign_12 : decode prog_1_method_28_code 12 = .ok (.iconst 1, 1) := by decide +kernel
theorem dA_isSign_13 : decode prog_1_method_28_code 13 = .ok (.goto 4, 3) := by decide +kernel
theorem dA_isSign_16 : decode prog_1_method_28_code 16 = .ok (.iconst 0, 1) := by decide +kernel
theorem dA_isSign_17 : decode prog_1_method_28_code 17 = .ok (.ireturn, 1) := by decide +kernel
def FA_isSign (h0 : Hp) (a0 : Nat) (p1 : Int32) : Option Int32 :=
  jn (fun (y1 : Int32) =>
  gd (y1 = 0 ∨ y1 = 1) (some y1))
  (fun (j2 : Int32 → Option Int32) =>
  jn (j2 0)
  (fun (j3 : Option Int32) =>
  if p1 < 0 then
    (j3)
  else
    (gI h0 a0 4 0 (fun x4 =>
    if x4 ≤ p1 then
      (j3)
    else
      (j2 1)))))
set_option maxRecDepth 100000 in
set_option maxHeartbeats 4000000 in
theorem mA_isSign (l : Launch) (h0 : Hp) (z0 : Nat) (a0 : Nat) (p1 : Int32) (r : Int32) (hr : FA_isSign h0 a0 p1 = some r) : vM True l yA_isSign (Cond.code yA_isSign prog_1_method_28_code 2 (some (.boolean)) :: gW) 0 [.ref a0, .int p1] h0 z0 h0 z0 (some (.int r)) 0 0 := by
  refine vM.of (by decide) rfl (Nat.le_of_ble_eq_true rfl) ?_
  intro p e s m args below meth c D dA C hin2
  refine (?_ : vO p l e (vR 0 0 0) s m args below meth c D dA (vA h0 z0) 2 True (fun r : Int32 => MQ below (vQc True h0 z0 D dA h0 z0 (some (.int r))) args s 0 0 (vAr True h0 z0)) 0 0 h0 z0 [(0, .ref a0), (1, .int p1)] 0 [] (FA_isSign h0 a0 p1)) r hr
  obtain ⟨Q, hQ⟩ : ∃ Q : Int32 → State → Prop, Q = (fun r : Int32 => MQ below (vQc True h0 z0 D dA h0 z0 (some (.int r))) args s 0 0 (vAr True h0 z0)) := ⟨_, rfl⟩
  rw [← hQ]
  unfold FA_isSign
  refine v_iload_n C dA_isSign_0 rfl 1 rfl ?_
  refine v_jn (fun (j : Int32 → Option Int32) => ∀ (y1 : Int32), vO p l e (vR 0 0 0) s m args below meth c D dA (vA h0 z0) 2 True Q 0 0 h0 z0 [] 17 [.int y1] (j y1)) ?_ (fun j2 Hj2 => ?_)
  · intro y1
    exact v_zret C dA_isSign_17 (by rw [hQ])
  · refine v_jn (fun (j : Option Int32) => vO p l e (vR 0 0 0) s m args below meth c D dA (vA h0 z0) 2 True Q 0 0 h0 z0 [] 16 [] j) ?_ (fun j3 Hj3 => ?_)
    · refine v_iconst (v := 0) C dA_isSign_16 (by decide) ?_
      exact Hj2 0
    · refine v_if_lt (tgt := 16) C dA_isSign_1 (by decide) ?_ ?_
      · refine v_lv (lv' := []) [] rfl ?_
        exact Hj3
      · refine v_iload_n C dA_isSign_4 rfl 1 rfl ?_
        refine v_aload_n C dA_isSign_5 rfl 0 rfl ?_
        refine v_getI C v_cl4 (by decide) in_4 rfl w_200 dA_isSign_6 (fun x4 => ?_)
        refine v_icmp_ge (tgt := 16) C dA_isSign_9 (by decide) ?_ ?_
        · refine v_lv (lv' := []) [] rfl ?_
          exact Hj3
        · refine v_iconst (v := 1) C dA_isSign_12 (by decide) ?_
          refine v_goto (tgt := 17) C dA_isSign_13 (by decide) ?_
          refine v_lv (lv' := []) [] rfl ?_
          exact Hj2 1
theorem dT_hasLeafOf_0 : decode prog_5_method_6_code 0 = .ok (.aload_n 0, 1) := by decide +kernel
theorem dT_hasLeafOf_1 : decode prog_5_method_6_code 1 = .ok (.getfield 51, 3) := by decide +kernel
theorem dT_hasLeafOf_4 : decode prog_5_method_6_code 4 = .ok (.iload_n 1, 1) := by decide +kernel
theorem dT_hasLeafOf_5 : decode prog_5_method_6_code 5 = .ok (.iaload, 1) := by decide +kernel
theorem dT_hasLeafOf_6 : decode prog_5_method_6_code 6 = .ok (.iconst (-1), 1) := by decide +kernel
theorem dT_hasLeafOf_7 : decode prog_5_method_6_code 7 = .ok (.if_icmp .eq 7, 3) := by decide +kernel
theorem dT_hasLeafOf_10 : decode prog_5_method_6_code 10 = .ok (.iconst 1, 1) := by decide +kernel
theorem dT_hasLeafOf_11 : decode prog_5_method_6_code 11 = .ok (.goto 4, 3) := by decide +kernel
theorem dT_hasLeafOf_14 : decode prog_5_method_6_code 14 = .ok (.iconst 0, 1) := by decide +kernel
theorem dT_hasLeafOf_15 : decode prog_5_method_6_code 15 = .ok (.ireturn, 1) := by decide +kernel
def FT_hasLeafOf (h0 : Hp) (a0 : Nat) (p1 : Int32) : Option Int32 :=
  gR h0 a0 3 7 (fun a1 =>
  ldI h0 a1 0 p1 (fun x2 =>
  jn (fun (y3 : Int32) =>
  gd (y3 = 0 ∨ y3 = 1) (some y3))
  (fun (j4 : Int32 → Option Int32) =>
  if x2 = (-1) then
    (j4 0)
  else
    (j4 1))))
set_option maxRecDepth 100000 in
set_option maxHeartbeats 4000000 in
theorem mT_hasLeafOf (l : Launch) (h0 : Hp) (z0 : Nat) (a0 : Nat) (p1 : Int32) (r : Int32) (hr : FT_hasLeafOf h0 a0 p1 = some r) : vM True l yT_hasLeafOf (Cond.code yT_hasLeafOf prog_5_method_6_code 2 (some (.boolean)) :: gW) 0 [.ref a0, .int p1] h0 z0 h0 z0 (some (.int r)) 0 0 := by
  refine vM.of (by decide) rfl (Nat.le_of_ble_eq_true rfl) ?_
  intro p e s m args below meth c D dA C hin2
  refine (?_ : vO p l e (vR 0 0 0) s m args below meth c D dA (vA h0 z0) 2 True (fun r : Int32 => MQ below (vQc True h0 z0 D dA h0 z0 (some (.int r))) args s 0 0 (vAr True h0 z0)) 0 0 h0 z0 [(0, .ref a0), (1, .int p1)] 0 [] (FT_hasLeafOf h0 a0 p1)) r hr
  obtain ⟨Q, hQ⟩ : ∃ Q : Int32 → State → Prop, Q = (fun r : Int32 => MQ below (vQc True h0 z0 D dA h0 z0 (some (.int r))) args s 0 0 (vAr True h0 z0)) := ⟨_, rfl⟩
  rw [← hQ]
  unfold FT_hasLeafOf
  refine v_aload_n C dT_hasLeafOf_0 rfl 0 rfl ?_
  refine v_getR C v_cl3 (by decide) in_3 rfl w_165 dT_hasLeafOf_1 (fun a1 => ?_)
  refine v_iload_n C dT_hasLeafOf_4 rfl 1 rfl ?_
  refine v_iald C rfl dT_hasLeafOf_5 (fun x2 => ?_)
  refine v_iconst (v := (-1)) C dT_hasLeafOf_6 (by decide) ?_
  refine v_jn (fun (j : Int32 → Option Int32) => ∀ (y3 : Int32), vO p l e (vR 0 0 0) s m args below meth c D dA (vA h0 z0) 2 True Q 0 0 h0 z0 [] 15 [.int y3] (j y3)) ?_ (fun j4 Hj4 => ?_)
  · intro y3
    exact v_zret C dT_hasLeafOf_15 (by rw [hQ])
  · refine v_icmp_eq (tgt := 14) C dT_hasLeafOf_7 (by decide) ?_ ?_
    · refine v_iconst (v := 0) C dT_hasLeafOf_14 (by decide) ?_
      refine v_lv (lv' := []) [] rfl ?_
      exact Hj4 0
    · refine v_iconst (v := 1) C dT_hasLeafOf_10 (by decide) ?_
      refine v_goto (tgt := 15) C dT_hasLeafOf_11 (by decide) ?_
      refine v_lv (lv' := []) [] rfl ?_
      exact Hj4 1
theorem dC_append_0 : decode prog_2_method_3_code 0 = .ok (.aload_n 0, 1) := by decide +kernel
theorem dC_append_1 : decode prog_2_method_3_code 1 = .ok (.getfield 9, 3) := by decide +kernel
theorem dC_append_4 : decode prog_2_method_3_code 4 = .ok (.aload_n 0, 1) := by decide +kernel
theorem dC_append_5 : decode prog_2_method_3_code 5 = .ok (.getfield 15, 3) := by decide +kernel
theorem dC_append_8 : decode prog_2_method_3_code 8 = .ok (.arraylength, 1) := by decide +kernel
theorem dC_append_9 : decode prog_2_method_3_code 9 = .ok (.if_icmp .ge 23, 3) := by decide +kernel
theorem dC_append_12 : decode prog_2_method_3_code 12 = .ok (.aload_n 0, 1) := by decide +kernel
theorem dC_append_13 : decode prog_2_method_3_code 13 = .ok (.getfield 15, 3) := by decide +kernel
theorem dC_append_16 : decode prog_2_method_3_code 16 = .ok (.aload_n 0, 1) := by decide +kernel
theorem dC_append_17 : decode prog_2_method_3_code 17 = .ok (.getfield 9, 3) := by decide +kernel
theorem dC_append_20 : decode prog_2_method_3_code 20 = .ok (.iload_n 1, 1) := by decide +kernel
theorem dC_append_21 : decode prog_2_method_3_code 21 = .ok (.iastore, 1) := by decide +kernel
theorem dC_append_22 : decode prog_2_method_3_code 22 = .ok (.aload_n 0, 1) := by decide +kernel
theorem dC_append_23 : decode prog_2_method_3_code 23 = .ok (.dup, 1) := by decide +kernel
theorem dC_append_24 : decode prog_2_method_3_code 24 = .ok (.getfield 9, 3) := by decide +kernel
theorem dC_append_27 : decode prog_2_method_3_code 27 = .ok (.iconst 1, 1) := by decide +kernel
theorem dC_append_28 : decode prog_2_method_3_code 28 = .ok (.iadd, 1) := by decide +kernel
theorem dC_append_29 : decode prog_2_method_3_code 29 = .ok (.putfield 9, 3) := by decide +kernel
theorem dC_append_32 : decode prog_2_method_3_code 32 = .ok (.return_, 1) := by decide +kernel
def FC_append (h0 : Hp) (a0 : Nat) (p1 : Int32) : Option Hp :=
  gI h0 a0 0 1 (fun x1 =>
  gR h0 a0 0 0 (fun a2 =>
  alen h0 a2 0 (fun x3 =>
  jn (fun (h4 : Hp) =>
  some h4)
  (fun (j5 : Hp → Option Hp) =>
  if x3 ≤ x1 then
    (j5 h0)
  else
    (gR h0 a0 0 0 (fun a6 =>
    gI h0 a0 0 1 (fun x7 =>
    stI h0 a6 0 x7 p1 (fun h8 =>
    gI h8 a0 0 1 (fun x9 =>
    pF h8 a0 0 1 (.int (x9 + 1)) (fun h10 =>
    j5 h10))))))))))
set_option maxRecDepth 100000 in
set_option maxHeartbeats 4000000 in
theorem mC_append (l : Launch) (h0 : Hp) (z0 : Nat) (a0 : Nat) (p1 : Int32) (r : Hp) (hr : FC_append h0 a0 p1 = some r) : vM False l yC_append (Cond.code yC_append prog_2_method_3_code 2 none :: gW) 0 [.ref a0, .int p1] h0 z0 r z0 none 0 0 := by
  refine vM.of (by decide) rfl (Nat.le_of_ble_eq_true rfl) ?_
  intro p e s m args below meth c D dA C hin2
  refine (?_ : vO p l e (vR 0 0 0) s m args below meth c D dA (vA h0 z0) 2 False (fun r : Hp => MQ below (vQc False h0 z0 D dA r z0 none) args s 0 0 (vAr False h0 z0)) 0 0 h0 z0 [(0, .ref a0), (1, .int p1)] 0 [] (FC_append h0 a0 p1)) r hr
  obtain ⟨Q, hQ⟩ : ∃ Q : Hp → State → Prop, Q = (fun r : Hp => MQ below (vQc False h0 z0 D dA r z0 none) args s 0 0 (vAr False h0 z0)) := ⟨_, rfl⟩
  rw [← hQ]
  unfold FC_append
  refine v_aload_n C dC_append_0 rfl 0 rfl ?_
  refine v_getI C v_cl0 (by decide) in_0 rfl w_110 dC_append_1 (fun x1 => ?_)
  refine v_aload_n C dC_append_4 rfl 0 rfl ?_
  refine v_getR C v_cl0 (by decide) in_0 rfl w_109 dC_append_5 (fun a2 => ?_)
  refine v_alen C rfl dC_append_8 (fun x3 => ?_)
  refine v_jn (fun (j : Hp → Option Hp) => ∀ (h4 : Hp), vO p l e (vR 0 0 0) s m args below meth c D dA (vA h0 z0) 2 False Q 0 0 h4 z0 [] 32 [] (j h4)) ?_ (fun j5 Hj5 => ?_)
  · intro h4
    exact v_vret C dC_append_32 (by rw [hQ])
  · refine v_icmp_ge (tgt := 32) C dC_append_9 (by decide) ?_ ?_
    · refine v_lv (lv' := []) [] rfl ?_
      exact Hj5 h0
    · refine v_aload_n C dC_append_12 rfl 0 rfl ?_
      refine v_getR C v_cl0 (by decide) in_0 rfl w_109 dC_append_13 (fun a6 => ?_)
      refine v_aload_n C dC_append_16 rfl 0 rfl ?_
      refine v_getI C v_cl0 (by decide) in_0 rfl w_110 dC_append_17 (fun x7 => ?_)
      refine v_iload_n C dC_append_20 rfl 1 rfl ?_
      refine v_iast C rfl dC_append_21 (fun h8 => ?_)
      refine v_aload_n C dC_append_22 rfl 0 rfl ?_
      refine v_dup C dC_append_23 rfl ?_
      refine v_getI C v_cl0 (by decide) in_0 rfl w_110 dC_append_24 (fun x9 => ?_)
      refine v_iconst (v := 1) C dC_append_27 (by decide) ?_
      refine v_iadd C dC_append_28 ?_
      refine v_put C v_cl0 (by decide) in_0 ty_0 ty_0_ok nm_0 rfl w_110 rfl (ty := .int) (by decide +kernel) rfl rfl dC_append_29 (fun h10 => ?_)
      refine v_lv (lv' := []) [] rfl ?_
      exact Hj5 h10
theorem dC_reverse_0 : decode prog_2_method_5_code 0 = .ok (.iconst 0, 1) := by decide +kernel
theorem dC_reverse_1 : decode prog_2_method_5_code 1 = .ok (.istore_n 1, 1) := by decide +kernel
theorem dC_reverse_2 : decode prog_2_method_5_code 2 = .ok (.aload_n 0, 1) := by decide +kernel
theorem dC_reverse_3 : decode prog_2_method_5_code 3 = .ok (.getfield 9, 3) := by decide +kernel
theorem dC_reverse_6 : decode prog_2_method_5_code 6 = .ok (.iconst 1, 1) := by decide +kernel
theorem dC_reverse_7 : decode prog_2_method_5_code 7 = .ok (.isub, 1) := by decide +kernel
theorem dC_reverse_8 : decode prog_2_method_5_code 8 = .ok (.istore_n 2, 1) := by decide +kernel
theorem dC_reverse_9 : decode prog_2_method_5_code 9 = .ok (.iload_n 1, 1) := by decide +kernel
theorem dC_reverse_10 : decode prog_2_method_5_code 10 = .ok (.iload_n 2, 1) := by decide +kernel
theorem dC_reverse_11 : decode prog_2_method_5_code 11 = .ok (.if_icmp .ge 38, 3) := by decide +kernel
theorem dC_reverse_14 : decode prog_2_method_5_code 14 = .ok (.aload_n 0, 1) := by decide +kernel
theorem dC_reverse_15 : decode prog_2_method_5_code 15 = .ok (.getfield 15, 3) := by decide +kernel
theorem dC_reverse_18 : decode prog_2_method_5_code 18 = .ok (.iload_n 1, 1) := by decide +kernel
theorem dC_reverse_19 : decode prog_2_method_5_code 19 = .ok (.iaload, 1) := by decide +kernel
theorem dC_reverse_20 : decode prog_2_method_5_code 20 = .ok (.istore_n 3, 1) := by decide +kernel
theorem dC_reverse_21 : decode prog_2_method_5_code 21 = .ok (.aload_n 0, 1) := by decide +kernel
theorem dC_reverse_22 : decode prog_2_method_5_code 22 = .ok (.getfield 15, 3) := by decide +kernel
theorem dC_reverse_25 : decode prog_2_method_5_code 25 = .ok (.iload_n 1, 1) := by decide +kernel
theorem dC_reverse_26 : decode prog_2_method_5_code 26 = .ok (.aload_n 0, 1) := by decide +kernel
theorem dC_reverse_27 : decode prog_2_method_5_code 27 = .ok (.getfield 15, 3) := by decide +kernel
theorem dC_reverse_30 : decode prog_2_method_5_code 30 = .ok (.iload_n 2, 1) := by decide +kernel
theorem dC_reverse_31 : decode prog_2_method_5_code 31 = .ok (.iaload, 1) := by decide +kernel
theorem dC_reverse_32 : decode prog_2_method_5_code 32 = .ok (.iastore, 1) := by decide +kernel
theorem dC_reverse_33 : decode prog_2_method_5_code 33 = .ok (.aload_n 0, 1) := by decide +kernel
theorem dC_reverse_34 : decode prog_2_method_5_code 34 = .ok (.getfield 15, 3) := by decide +kernel
theorem dC_reverse_37 : decode prog_2_method_5_code 37 = .ok (.iload_n 2, 1) := by decide +kernel
theorem dC_reverse_38 : decode prog_2_method_5_code 38 = .ok (.iload_n 3, 1) := by decide +kernel
theorem dC_reverse_39 : decode prog_2_method_5_code 39 = .ok (.iastore, 1) := by decide +kernel
theorem dC_reverse_40 : decode prog_2_method_5_code 40 = .ok (.iinc 1 1, 3) := by decide +kernel
theorem dC_reverse_43 : decode prog_2_method_5_code 43 = .ok (.iinc 2 (-1), 3) := by decide +kernel
theorem dC_reverse_46 : decode prog_2_method_5_code 46 = .ok (.goto (-37), 3) := by decide +kernel
theorem dC_reverse_49 : decode prog_2_method_5_code 49 = .ok (.return_, 1) := by decide +kernel
def LC_reverse_9 (a0 : Nat) (K3 : Hp → Option Hp) (rec7 : Hp → Int32 → Int32 → Option Hp) (h4 : Hp) (x5 : Int32) (x6 : Int32) : Option Hp :=
  if x6 ≤ x5 then
    (K3 h4)
  else
    (gR h4 a0 0 0 (fun a8 =>
    ldI h4 a8 0 x5 (fun x9 =>
    gR h4 a0 0 0 (fun a10 =>
    gR h4 a0 0 0 (fun a11 =>
    ldI h4 a11 0 x6 (fun x12 =>
    stI h4 a10 0 x5 x12 (fun h13 =>
    gR h13 a0 0 0 (fun a14 =>
    stI h13 a14 0 x6 x9 (fun h15 =>
    rec7 h15 (x5 + 1) (x6 + (-1)))))))))))
def FC_reverse (h0 : Hp) (a0 : Nat) : Option Hp :=
  gI h0 a0 0 1 (fun x1 =>
  jn (fun (h2 : Hp) =>
  some h2)
  (fun (K3 : Hp → Option Hp) =>
  lpG (fun _ _ _ => none) fu (LC_reverse_9 a0 K3) h0 0 (x1 - 1)))
set_option maxRecDepth 100000 in
set_option maxHeartbeats 4000000 in
theorem mC_reverse (l : Launch) (h0 : Hp) (z0 : Nat) (a0 : Nat) (r : Hp) (hr : FC_reverse h0 a0 = some r) : vM False l yC_reverse (Cond.code yC_reverse prog_2_method_5_code 4 none :: gW) 0 [.ref a0] h0 z0 r z0 none 0 0 := by
  refine vM.of (by decide) rfl (Nat.le_of_ble_eq_true rfl) ?_
  intro p e s m args below meth c D dA C hin2
  refine (?_ : vO p l e (vR 0 0 0) s m args below meth c D dA (vA h0 z0) 4 False (fun r : Hp => MQ below (vQc False h0 z0 D dA r z0 none) args s 0 0 (vAr False h0 z0)) 0 0 h0 z0 [(0, .ref a0)] 0 [] (FC_reverse h0 a0)) r hr
  obtain ⟨Q, hQ⟩ : ∃ Q : Hp → State → Prop, Q = (fun r : Hp => MQ below (vQc False h0 z0 D dA r z0 none) args s 0 0 (vAr False h0 z0)) := ⟨_, rfl⟩
  rw [← hQ]
  unfold FC_reverse
  refine v_iconst (v := 0) C dC_reverse_0 (by decide) ?_
  refine v_istore_n (lv' := [(0, .ref a0), (1, .int 0)]) C dC_reverse_1 rfl (by decide) [1, 0] rfl ?_
  refine v_aload_n C dC_reverse_2 rfl 0 rfl ?_
  refine v_getI C v_cl0 (by decide) in_0 rfl w_110 dC_reverse_3 (fun x1 => ?_)
  refine v_iconst (v := 1) C dC_reverse_6 (by decide) ?_
  refine v_isub C dC_reverse_7 ?_
  refine v_istore_n (lv' := [(0, .ref a0), (1, .int 0), (2, .int (x1 - 1))]) C dC_reverse_8 rfl (by decide) [1, 2, 0] rfl ?_
  refine v_jn (fun (j : Hp → Option Hp) => ∀ (h2 : Hp), vO p l e (vR 0 0 0) s m args below meth c D dA (vA h0 z0) 4 False Q 0 0 h2 z0 [] 49 [] (j h2)) ?_ (fun K3 HK3 => ?_)
  · intro h2
    exact v_vret C dC_reverse_49 (by rw [hQ])
  · refine lpG_ind (bot := (fun _ _ _ => none)) (B := LC_reverse_9 a0 K3) (fun (r : Hp → Int32 → Int32 → Option Hp) => ∀ (h4 : Hp), ∀ (x5 : Int32), ∀ (x6 : Int32), vO p l e (vR 0 0 0) s m args below meth c D dA (vA h0 z0) 4 False Q 0 0 h4 z0 [(0, .ref a0), (1, .int x5), (2, .int x6)] 9 [] (r h4 x5 x6)) ?_ ?_ fu h0 0 (x1 - 1)
    · intro h4 x5 x6
      exact v_none
    · intro rec7 Hrec7 h4 x5 x6
      unfold LC_reverse_9
      refine v_iload_n C dC_reverse_9 rfl 1 rfl ?_
      refine v_iload_n C dC_reverse_10 rfl 2 rfl ?_
      refine v_icmp_ge (tgt := 49) C dC_reverse_11 (by decide) ?_ ?_
      · refine v_lv (lv' := []) [] rfl ?_
        exact HK3 h4
      · refine v_aload_n C dC_reverse_14 rfl 0 rfl ?_
        refine v_getR C v_cl0 (by decide) in_0 rfl w_109 dC_reverse_15 (fun a8 => ?_)
        refine v_iload_n C dC_reverse_18 rfl 1 rfl ?_
        refine v_iald C rfl dC_reverse_19 (fun x9 => ?_)
        refine v_istore_n (lv' := [(0, .ref a0), (1, .int x5), (2, .int x6), (3, .int x9)]) C dC_reverse_20 rfl (by decide) [1, 2, 3, 0] rfl ?_
        refine v_aload_n C dC_reverse_21 rfl 0 rfl ?_
        refine v_getR C v_cl0 (by decide) in_0 rfl w_109 dC_reverse_22 (fun a10 => ?_)
        refine v_iload_n C dC_reverse_25 rfl 1 rfl ?_
        refine v_aload_n C dC_reverse_26 rfl 0 rfl ?_
        refine v_getR C v_cl0 (by decide) in_0 rfl w_109 dC_reverse_27 (fun a11 => ?_)
        refine v_iload_n C dC_reverse_30 rfl 2 rfl ?_
        refine v_iald C rfl dC_reverse_31 (fun x12 => ?_)
        refine v_iast C rfl dC_reverse_32 (fun h13 => ?_)
        refine v_aload_n C dC_reverse_33 rfl 0 rfl ?_
        refine v_getR C v_cl0 (by decide) in_0 rfl w_109 dC_reverse_34 (fun a14 => ?_)
        refine v_iload_n C dC_reverse_37 rfl 2 rfl ?_
        refine v_iload_n C dC_reverse_38 rfl 3 rfl ?_
        refine v_iast C rfl dC_reverse_39 (fun h15 => ?_)
        refine v_iinc (v := (x5 + 1)) (lv' := [(0, .ref a0), (1, .int (x5 + 1)), (2, .int x6)]) C dC_reverse_40 1 rfl rfl (by decide) [1, 0, 2] rfl ?_
        refine v_iinc (v := (x6 + (-1))) (lv' := [(0, .ref a0), (1, .int (x5 + 1)), (2, .int (x6 + (-1)))]) C dC_reverse_43 2 rfl rfl (by decide) [1, 2, 0] rfl ?_
        refine v_goto (tgt := 9) C dC_reverse_46 (by decide) ?_
        exact Hrec7 h15 (x5 + 1) (x6 + (-1))
theorem dT_layWayTo_0 : decode prog_5_method_9_code 0 = .ok (.iload_n 1, 1) := by decide +kernel
theorem dT_layWayTo_1 : decode prog_5_method_9_code 1 = .ok (.istore_n 3, 1) := by decide +kernel
theorem dT_layWayTo_2 : decode prog_5_method_9_code 2 = .ok (.iconst 0, 1) := by decide +kernel
theorem dT_layWayTo_3 : decode prog_5_method_9_code 3 = .ok (.istore 4, 2) := by decide +kernel
theorem dT_layWayTo_5 : decode prog_5_method_9_code 5 = .ok (.aload_n 0, 1) := by decide +kernel
theorem dT_layWayTo_6 : decode prog_5_method_9_code 6 = .ok (.getfield 42, 3) := by decide +kernel
theorem dT_layWayTo_9 : decode prog_5_method_9_code 9 = .ok (.iload_n 3, 1) := by decide +kernel
theorem dT_layWayTo_10 : decode prog_5_method_9_code 10 = .ok (.iaload, 1) := by decide +kernel
theorem dT_layWayTo_11 : decode prog_5_method_9_code 11 = .ok (.iconst (-1), 1) := by decide +kernel
theorem dT_layWayTo_12 : decode prog_5_method_9_code 12 = .ok (.if_icmp .eq 49, 3) := by decide +kernel
theorem dT_layWayTo_15 : decode prog_5_method_9_code 15 = .ok (.iload 4, 2) := by decide +kernel
theorem dT_layWayTo_17 : decode prog_5_method_9_code 17 = .ok (.aload_n 0, 1) := by decide +kernel
theorem dT_layWayTo_18 : decode prog_5_method_9_code 18 = .ok (.getfield 15, 3) := by decide +kernel
theorem dT_layWayTo_21 : decode prog_5_method_9_code 21 = .ok (.if_icmp .ge 40, 3) := by decide +kernel
theorem dT_layWayTo_24 : decode prog_5_method_9_code 24 = .ok (.aload_n 2, 1) := by decide +kernel
theorem dT_layWayTo_25 : decode prog_5_method_9_code 25 = .ok (.aload_n 0, 1) := by decide +kernel
theorem dT_layWayTo_26 : decode prog_5_method_9_code 26 = .ok (.getfield 45, 3) := by decide +kernel
theorem dT_layWayTo_29 : decode prog_5_method_9_code 29 = .ok (.aload_n 0, 1) := by decide +kernel
theorem dT_layWayTo_30 : decode prog_5_method_9_code 30 = .ok (.getfield 42, 3) := by decide +kernel
theorem dT_layWayTo_33 : decode prog_5_method_9_code 33 = .ok (.iload_n 3, 1) := by decide +kernel
theorem dT_layWayTo_34 : decode prog_5_method_9_code 34 = .ok (.iaload, 1) := by decide +kernel
theorem dT_layWayTo_35 : decode prog_5_method_9_code 35 = .ok (.iaload, 1) := by decide +kernel
theorem dT_layWayTo_36 : decode prog_5_method_9_code 36 = .ok (.iload_n 3, 1) := by decide +kernel
theorem dT_layWayTo_37 : decode prog_5_method_9_code 37 = .ok (.if_icmp .ne 7, 3) := by decide +kernel
theorem dT_layWayTo_40 : decode prog_5_method_9_code 40 = .ok (.iconst 0, 1) := by decide +kernel
theorem dT_layWayTo_41 : decode prog_5_method_9_code 41 = .ok (.goto 4, 3) := by decide +kernel
theorem dT_layWayTo_44 : decode prog_5_method_9_code 44 = .ok (.iconst 1, 1) := by decide +kernel
theorem dT_layWayTo_45 : decode prog_5_method_9_code 45 = .ok (.invokevirtual 64, 3) := by decide +kernel
theorem dT_layWayTo_48 : decode prog_5_method_9_code 48 = .ok (.aload_n 0, 1) := by decide +kernel
theorem dT_layWayTo_49 : decode prog_5_method_9_code 49 = .ok (.getfield 42, 3) := by decide +kernel
theorem dT_layWayTo_52 : decode prog_5_method_9_code 52 = .ok (.iload_n 3, 1) := by decide +kernel
theorem dT_layWayTo_53 : decode prog_5_method_9_code 53 = .ok (.iaload, 1) := by decide +kernel
theorem dT_layWayTo_54 : decode prog_5_method_9_code 54 = .ok (.istore_n 3, 1) := by decide +kernel
theorem dT_layWayTo_55 : decode prog_5_method_9_code 55 = .ok (.iinc 4 1, 3) := by decide +kernel
theorem dT_layWayTo_58 : decode prog_5_method_9_code 58 = .ok (.goto (-53), 3) := by decide +kernel
theorem dT_layWayTo_61 : decode prog_5_method_9_code 61 = .ok (.aload_n 2, 1) := by decide +kernel
theorem dT_layWayTo_62 : decode prog_5_method_9_code 62 = .ok (.invokevirtual 70, 3) := by decide +kernel
theorem dT_layWayTo_65 : decode prog_5_method_9_code 65 = .ok (.return_, 1) := by decide +kernel
def LT_layWayTo_5 (a0 : Nat) (u2 : Nat) (K2 : Hp → Option Hp) (rec8 : Hp → Int32 → Int32 → Option Hp) (h5 : Hp) (x6 : Int32) (x7 : Int32) : Option Hp :=
  gR h5 a0 3 4 (fun a9 =>
  ldI h5 a9 0 x6 (fun x10 =>
  if x10 = (-1) then
    (K2 h5)
  else
    (gI h5 a0 3 9 (fun x11 =>
    if x11 ≤ x7 then
      (K2 h5)
    else
      (gR h5 a0 3 5 (fun a12 =>
      gR h5 a0 3 4 (fun a13 =>
      ldI h5 a13 0 x6 (fun x14 =>
      ldI h5 a12 0 x14 (fun x15 =>
      jn (fun (y16 : Int32) (b17 : Nat) =>
      gd (isO h5 b17 0 = true) ((FC_append h5 b17 y16).bind (fun r20 =>
      gR r20 a0 3 4 (fun a21 =>
      ldI r20 a21 0 x6 (fun x22 =>
      rec8 r20 x22 (x7 + 1))))))
      (fun (j18 : Int32 → Nat → Option Hp) =>
      if x15 = x6 then
        (j18 0 u2)
      else
        (j18 1 u2)))))))))))
def FT_layWayTo (h0 : Hp) (a0 : Nat) (p1 : Int32) (u2 : Nat) : Option Hp :=
  jn (fun (h1 : Hp) =>
  gd (isO h1 u2 0 = true) ((FC_reverse h1 u2).bind (fun r4 =>
  some r4)))
  (fun (K2 : Hp → Option Hp) =>
  lpG (fun _ _ _ => none) fu (LT_layWayTo_5 a0 u2 K2) h0 p1 0)
set_option maxRecDepth 100000 in
set_option maxHeartbeats 4000000 in
theorem mT_layWayTo (l : Launch) (h0 : Hp) (z0 : Nat) (a0 : Nat) (p1 : Int32) (u2 : Nat) (r : Hp) (hr : FT_layWayTo h0 a0 p1 u2 = some r) : vM False l yT_layWayTo (Cond.code yT_layWayTo prog_5_method_9_code 5 none :: gW) 1 [.ref a0, .int p1, .ref u2] h0 z0 r z0 none 0 0 := by
  refine vM.of (by decide) rfl (Nat.le_of_ble_eq_true rfl) ?_
  intro p e s m args below meth c D dA C hin2
  refine (?_ : vO p l e (vR 1 0 0) s m args below meth c D dA (vA h0 z0) 5 False (fun r : Hp => MQ below (vQc False h0 z0 D dA r z0 none) args s 0 0 (vAr False h0 z0)) 0 0 h0 z0 [(0, .ref a0), (1, .int p1), (2, .ref u2)] 0 [] (FT_layWayTo h0 a0 p1 u2)) r hr
  obtain ⟨Q, hQ⟩ : ∃ Q : Hp → State → Prop, Q = (fun r : Hp => MQ below (vQc False h0 z0 D dA r z0 none) args s 0 0 (vAr False h0 z0)) := ⟨_, rfl⟩
  rw [← hQ]
  unfold FT_layWayTo
  refine v_iload_n C dT_layWayTo_0 rfl 1 rfl ?_
  refine v_istore_n (lv' := [(0, .ref a0), (2, .ref u2), (3, .int p1)]) C dT_layWayTo_1 rfl (by decide) [1, 3, 0] rfl ?_
  refine v_iconst (v := 0) C dT_layWayTo_2 (by decide) ?_
  refine v_istore (lv' := [(0, .ref a0), (2, .ref u2), (3, .int p1), (4, .int 0)]) C dT_layWayTo_3 (by decide) [1, 2, 3, 0] rfl ?_
  refine v_jn (fun (j : Hp → Option Hp) => ∀ (h1 : Hp), vO p l e (vR 1 0 0) s m args below meth c D dA (vA h0 z0) 5 False Q 0 0 h1 z0 [(2, .ref u2)] 61 [] (j h1)) ?_ (fun K2 HK2 => ?_)
  · intro h1
    refine v_aload_n C dT_layWayTo_61 rfl 0 rfl ?_
    refine v_gd fun hO3 => ?_
    refine v_bind fun r4 hr4 => ?_
    refine v_callV0 (N := 0) (As := []) (st := []) C (fun f => f.elim) (mC_reverse l h1 z0 u2 r4 hr4) rfl w_292 w_48 (by decide +kernel) ⟨Nat.le_of_ble_eq_true rfl, Nat.le_of_ble_eq_true rfl⟩ rfl rfl (Nat.le_of_ble_eq_true rfl) ⟨Nat.zero_le _, Nat.zero_le _⟩ w_289 w_290 w_291 v_cl0 rfl hO3 dT_layWayTo_62 ?_
    exact v_vret C dT_layWayTo_65 (by rw [hQ])
  · refine lpG_ind (bot := (fun _ _ _ => none)) (B := LT_layWayTo_5 a0 u2 K2) (fun (r : Hp → Int32 → Int32 → Option Hp) => ∀ (h5 : Hp), ∀ (x6 : Int32), ∀ (x7 : Int32), vO p l e (vR 1 0 0) s m args below meth c D dA (vA h0 z0) 5 False Q 0 0 h5 z0 [(0, .ref a0), (2, .ref u2), (3, .int x6), (4, .int x7)] 5 [] (r h5 x6 x7)) ?_ ?_ fu h0 p1 0
    · intro h5 x6 x7
      exact v_none
    · intro rec8 Hrec8 h5 x6 x7
      unfold LT_layWayTo_5
      refine v_aload_n C dT_layWayTo_5 rfl 0 rfl ?_
      refine v_getR C v_cl3 (by decide) in_3 rfl w_160 dT_layWayTo_6 (fun a9 => ?_)
      refine v_iload_n C dT_layWayTo_9 rfl 2 rfl ?_
      refine v_iald C rfl dT_layWayTo_10 (fun x10 => ?_)
      refine v_iconst (v := (-1)) C dT_layWayTo_11 (by decide) ?_
      refine v_icmp_eq (tgt := 61) C dT_layWayTo_12 (by decide) ?_ ?_
      · refine v_lv (lv' := [(2, .ref u2)]) [1] rfl ?_
        exact HK2 h5
      · refine v_iload C dT_layWayTo_15 3 rfl ?_
        refine v_aload_n C dT_layWayTo_17 rfl 0 rfl ?_
        refine v_getI C v_cl3 (by decide) in_3 rfl w_169 dT_layWayTo_18 (fun x11 => ?_)
        refine v_icmp_ge (tgt := 61) C dT_layWayTo_21 (by decide) ?_ ?_
        · refine v_lv (lv' := [(2, .ref u2)]) [1] rfl ?_
          exact HK2 h5
        · refine v_aload_n C dT_layWayTo_24 rfl 1 rfl ?_
          refine v_aload_n C dT_layWayTo_25 rfl 0 rfl ?_
          refine v_getR C v_cl3 (by decide) in_3 rfl w_162 dT_layWayTo_26 (fun a12 => ?_)
          refine v_aload_n C dT_layWayTo_29 rfl 0 rfl ?_
          refine v_getR C v_cl3 (by decide) in_3 rfl w_160 dT_layWayTo_30 (fun a13 => ?_)
          refine v_iload_n C dT_layWayTo_33 rfl 2 rfl ?_
          refine v_iald C rfl dT_layWayTo_34 (fun x14 => ?_)
          refine v_iald C rfl dT_layWayTo_35 (fun x15 => ?_)
          refine v_iload_n C dT_layWayTo_36 rfl 2 rfl ?_
          refine v_jn (fun (j : Int32 → Nat → Option Hp) => ∀ (y16 : Int32), ∀ (b17 : Nat), vO p l e (vR 1 0 0) s m args below meth c D dA (vA h0 z0) 5 False Q 0 0 h5 z0 [(0, .ref a0), (2, .ref u2), (3, .int x6), (4, .int x7)] 45 [.int y16, .ref b17] (j y16 b17)) ?_ (fun j18 Hj18 => ?_)
          · intro y16 b17
            refine v_gd fun hO19 => ?_
            refine v_bind fun r20 hr20 => ?_
            refine v_callV0 (N := 1) (As := [.int y16]) (st := []) C (fun f => f.elim) (mC_append l h5 z0 b17 y16 r20 hr20) rfl w_288 w_48 (by decide +kernel) ⟨Nat.le_of_ble_eq_true rfl, Nat.le_of_ble_eq_true rfl⟩ rfl rfl (Nat.le_of_ble_eq_true rfl) ⟨Nat.zero_le _, Nat.zero_le _⟩ w_285 w_286 w_287 v_cl0 rfl hO19 dT_layWayTo_45 ?_
            refine v_aload_n C dT_layWayTo_48 rfl 0 rfl ?_
            refine v_getR C v_cl3 (by decide) in_3 rfl w_160 dT_layWayTo_49 (fun a21 => ?_)
            refine v_iload_n C dT_layWayTo_52 rfl 2 rfl ?_
            refine v_iald C rfl dT_layWayTo_53 (fun x22 => ?_)
            refine v_istore_n (lv' := [(0, .ref a0), (2, .ref u2), (3, .int x22), (4, .int x7)]) C dT_layWayTo_54 rfl (by decide) [1, 2, 0, 3] rfl ?_
            refine v_iinc (v := (x7 + 1)) (lv' := [(0, .ref a0), (2, .ref u2), (3, .int x22), (4, .int (x7 + 1))]) C dT_layWayTo_55 3 rfl rfl (by decide) [1, 2, 3, 0] rfl ?_
            refine v_goto (tgt := 5) C dT_layWayTo_58 (by decide) ?_
            exact Hrec8 r20 x22 (x7 + 1)
          · refine v_icmp_ne (tgt := 44) C dT_layWayTo_37 (by decide) ?_ ?_
            · refine v_iconst (v := 1) C dT_layWayTo_44 (by decide) ?_
              exact Hj18 1 u2
            · refine v_iconst (v := 0) C dT_layWayTo_40 (by decide) ?_
              refine v_goto (tgt := 45) C dT_layWayTo_41 (by decide) ?_
              exact Hj18 0 u2
theorem dC_appendNumber_0 : decode prog_2_method_4_code 0 = .ok (.iload_n 2, 1) := by decide +kernel
theorem dC_appendNumber_1 : decode prog_2_method_4_code 1 = .ok (.iconst 1, 1) := by decide +kernel
theorem dC_appendNumber_2 : decode prog_2_method_4_code 2 = .ok (.isub, 1) := by decide +kernel
theorem dC_appendNumber_3 : decode prog_2_method_4_code 3 = .ok (.istore_n 3, 1) := by decide +kernel
theorem dC_appendNumber_4 : decode prog_2_method_4_code 4 = .ok (.iload_n 3, 1) := by decide +kernel
theorem dC_appendNumber_5 : decode prog_2_method_4_code 5 = .ok (.ifCond .lt 18, 3) := by decide +kernel
theorem dC_appendNumber_8 : decode prog_2_method_4_code 8 = .ok (.aload_n 0, 1) := by decide +kernel
theorem dC_appendNumber_9 : decode prog_2_method_4_code 9 = .ok (.iload_n 1, 1) := by decide +kernel
theorem dC_appendNumber_10 : decode prog_2_method_4_code 10 = .ok (.iload_n 3, 1) := by decide +kernel
theorem dC_appendNumber_11 : decode prog_2_method_4_code 11 = .ok (.ishr, 1) := by decide +kernel
theorem dC_appendNumber_12 : decode prog_2_method_4_code 12 = .ok (.iconst 1, 1) := by decide +kernel
theorem dC_appendNumber_13 : decode prog_2_method_4_code 13 = .ok (.iand, 1) := by decide +kernel
theorem dC_appendNumber_14 : decode prog_2_method_4_code 14 = .ok (.invokevirtual 19, 3) := by decide +kernel
theorem dC_appendNumber_17 : decode prog_2_method_4_code 17 = .ok (.iinc 3 (-1), 3) := by decide +kernel
theorem dC_appendNumber_20 : decode prog_2_method_4_code 20 = .ok (.goto (-16), 3) := by decide +kernel
theorem dC_appendNumber_23 : decode prog_2_method_4_code 23 = .ok (.return_, 1) := by decide +kernel
def LC_appendNumber_4 (a0 : Nat) (p1 : Int32) (K2 : Hp → Option Hp) (rec5 : Hp → Int32 → Option Hp) (h3 : Hp) (x4 : Int32) : Option Hp :=
  if x4 < 0 then
    (K2 h3)
  else
    (gd (isO h3 a0 0 = true) ((FC_append h3 a0 ((p1 >>> (x4 &&& 31)) &&& 1)).bind (fun r7 =>
    rec5 r7 (x4 + (-1)))))
def FC_appendNumber (h0 : Hp) (a0 : Nat) (p1 : Int32) (p2 : Int32) : Option Hp :=
  jn (fun (h1 : Hp) =>
  some h1)
  (fun (K2 : Hp → Option Hp) =>
  lpG (fun _ _ => none) fu (LC_appendNumber_4 a0 p1 K2) h0 (p2 - 1))
set_option maxRecDepth 100000 in
set_option maxHeartbeats 4000000 in
theorem mC_appendNumber (l : Launch) (h0 : Hp) (z0 : Nat) (a0 : Nat) (p1 : Int32) (p2 : Int32) (r : Hp) (hr : FC_appendNumber h0 a0 p1 p2 = some r) : vM False l yC_appendNumber (Cond.code yC_appendNumber prog_2_method_4_code 4 none :: gW) 1 [.ref a0, .int p1, .int p2] h0 z0 r z0 none 0 0 := by
  refine vM.of (by decide) rfl (Nat.le_of_ble_eq_true rfl) ?_
  intro p e s m args below meth c D dA C hin2
  refine (?_ : vO p l e (vR 1 0 0) s m args below meth c D dA (vA h0 z0) 4 False (fun r : Hp => MQ below (vQc False h0 z0 D dA r z0 none) args s 0 0 (vAr False h0 z0)) 0 0 h0 z0 [(0, .ref a0), (1, .int p1), (2, .int p2)] 0 [] (FC_appendNumber h0 a0 p1 p2)) r hr
  obtain ⟨Q, hQ⟩ : ∃ Q : Hp → State → Prop, Q = (fun r : Hp => MQ below (vQc False h0 z0 D dA r z0 none) args s 0 0 (vAr False h0 z0)) := ⟨_, rfl⟩
  rw [← hQ]
  unfold FC_appendNumber
  refine v_iload_n C dC_appendNumber_0 rfl 2 rfl ?_
  refine v_iconst (v := 1) C dC_appendNumber_1 (by decide) ?_
  refine v_isub C dC_appendNumber_2 ?_
  refine v_istore_n (lv' := [(0, .ref a0), (1, .int p1), (3, .int (p2 - 1))]) C dC_appendNumber_3 rfl (by decide) [1, 2, 0] rfl ?_
  refine v_jn (fun (j : Hp → Option Hp) => ∀ (h1 : Hp), vO p l e (vR 1 0 0) s m args below meth c D dA (vA h0 z0) 4 False Q 0 0 h1 z0 [] 23 [] (j h1)) ?_ (fun K2 HK2 => ?_)
  · intro h1
    exact v_vret C dC_appendNumber_23 (by rw [hQ])
  · refine lpG_ind (bot := (fun _ _ => none)) (B := LC_appendNumber_4 a0 p1 K2) (fun (r : Hp → Int32 → Option Hp) => ∀ (h3 : Hp), ∀ (x4 : Int32), vO p l e (vR 1 0 0) s m args below meth c D dA (vA h0 z0) 4 False Q 0 0 h3 z0 [(0, .ref a0), (1, .int p1), (3, .int x4)] 4 [] (r h3 x4)) ?_ ?_ fu h0 (p2 - 1)
    · intro h3 x4
      exact v_none
    · intro rec5 Hrec5 h3 x4
      unfold LC_appendNumber_4
      refine v_iload_n C dC_appendNumber_4 rfl 2 rfl ?_
      refine v_if_lt (tgt := 23) C dC_appendNumber_5 (by decide) ?_ ?_
      · refine v_lv (lv' := []) [] rfl ?_
        exact HK2 h3
      · refine v_aload_n C dC_appendNumber_8 rfl 0 rfl ?_
        refine v_iload_n C dC_appendNumber_9 rfl 1 rfl ?_
        refine v_iload_n C dC_appendNumber_10 rfl 2 rfl ?_
        refine v_ishr C dC_appendNumber_11 ?_
        refine v_iconst (v := 1) C dC_appendNumber_12 (by decide) ?_
        refine v_iand C dC_appendNumber_13 ?_
        refine v_gd fun hO6 => ?_
        refine v_bind fun r7 hr7 => ?_
        refine v_callV0 (N := 1) (As := [.int ((p1 >>> (x4 &&& 31)) &&& 1)]) (st := []) C (fun f => f.elim) (mC_append l h3 z0 a0 ((p1 >>> (x4 &&& 31)) &&& 1) r7 hr7) rfl w_288 w_48 (by decide +kernel) ⟨Nat.le_of_ble_eq_true rfl, Nat.le_of_ble_eq_true rfl⟩ rfl rfl (Nat.le_of_ble_eq_true rfl) ⟨Nat.zero_le _, Nat.zero_le _⟩ w_297 w_286 w_287 v_cl0 rfl hO6 dC_appendNumber_14 ?_
        refine v_iinc (v := (x4 + (-1))) (lv' := [(0, .ref a0), (1, .int p1), (3, .int (x4 + (-1)))]) C dC_appendNumber_17 2 rfl rfl (by decide) [1, 2, 0] rfl ?_
        refine v_goto (tgt := 4) C dC_appendNumber_20 (by decide) ?_
        exact Hrec5 r7 (x4 + (-1))
theorem dA_layCode_0 : decode prog_1_method_30_code 0 = .ok (.aload_n 0, 1) := by decide +kernel
theorem dA_layCode_1 : decode prog_1_method_30_code 1 = .ok (.getfield 73, 3) := by decide +kernel
theorem dA_layCode_4 : decode prog_1_method_30_code 4 = .ok (.iconst 0, 1) := by decide +kernel
theorem dA_layCode_5 : decode prog_1_method_30_code 5 = .ok (.putfield 104, 3) := by decide +kernel
theorem dA_layCode_8 : decode prog_1_method_30_code 8 = .ok (.aload_n 1, 1) := by decide +kernel
theorem dA_layCode_9 : decode prog_1_method_30_code 9 = .ok (.iload_n 2, 1) := by decide +kernel
theorem dA_layCode_10 : decode prog_1_method_30_code 10 = .ok (.invokevirtual 130, 3) := by decide +kernel
theorem dA_layCode_13 : decode prog_1_method_30_code 13 = .ok (.ifCond .eq 20, 3) := by decide +kernel
theorem dA_layCode_16 : decode prog_1_method_30_code 16 = .ok (.aload_n 1, 1) := by decide +kernel
theorem dA_layCode_17 : decode prog_1_method_30_code 17 = .ok (.aload_n 1, 1) := by decide +kernel
theorem dA_layCode_18 : decode prog_1_method_30_code 18 = .ok (.getfield 187, 3) := by decide +kernel
theorem dA_layCode_21 : decode prog_1_method_30_code 21 = .ok (.iload_n 2, 1) := by decide +kernel
theorem dA_layCode_22 : decode prog_1_method_30_code 22 = .ok (.iaload, 1) := by decide +kernel
theorem dA_layCode_23 : decode prog_1_method_30_code 23 = .ok (.aload_n 0, 1) := by decide +kernel
theorem dA_layCode_24 : decode prog_1_method_30_code 24 = .ok (.getfield 73, 3) := by decide +kernel
theorem dA_layCode_27 : decode prog_1_method_30_code 27 = .ok (.invokevirtual 190, 3) := by decide +kernel
theorem dA_layCode_30 : decode prog_1_method_30_code 30 = .ok (.goto 27, 3) := by decide +kernel
theorem dA_layCode_33 : decode prog_1_method_30_code 33 = .ok (.aload_n 1, 1) := by decide +kernel
theorem dA_layCode_34 : decode prog_1_method_30_code 34 = .ok (.aload_n 1, 1) := by decide +kernel
theorem dA_layCode_35 : decode prog_1_method_30_code 35 = .ok (.getfield 137, 3) := by decide +kernel
theorem dA_layCode_38 : decode prog_1_method_30_code 38 = .ok (.aload_n 0, 1) := by decide +kernel
theorem dA_layCode_39 : decode prog_1_method_30_code 39 = .ok (.getfield 73, 3) := by decide +kernel
theorem dA_layCode_42 : decode prog_1_method_30_code 42 = .ok (.invokevirtual 190, 3) := by decide +kernel
theorem dA_layCode_45 : decode prog_1_method_30_code 45 = .ok (.aload_n 0, 1) := by decide +kernel
theorem dA_layCode_46 : decode prog_1_method_30_code 46 = .ok (.getfield 73, 3) := by decide +kernel
theorem dA_layCode_49 : decode prog_1_method_30_code 49 = .ok (.iload_n 2, 1) := by decide +kernel
theorem dA_layCode_50 : decode prog_1_method_30_code 50 = .ok (.aload_n 0, 1) := by decide +kernel
theorem dA_layCode_51 : decode prog_1_method_30_code 51 = .ok (.getfield 62, 3) := by decide +kernel
theorem dA_layCode_54 : decode prog_1_method_30_code 54 = .ok (.invokevirtual 194, 3) := by decide +kernel
theorem dA_layCode_57 : decode prog_1_method_30_code 57 = .ok (.return_, 1) := by decide +kernel
def FA_layCode (h0 : Hp) (a0 : Nat) (u1 : Nat) (p2 : Int32) : Option Hp :=
  gR h0 a0 4 10 (fun a1 =>
  pF h0 a1 0 1 (.int 0) (fun h2 =>
  gd (isO h2 u1 3 = true) ((FT_hasLeafOf h2 u1 p2).bind (fun r4 =>
  jn (fun (h5 : Hp) =>
  some h5)
  (fun (j6 : Hp → Option Hp) =>
  if r4 = 0 then
    (gI h2 u1 3 10 (fun x7 =>
    gR h2 a0 4 10 (fun a8 =>
    gd (isO h2 u1 3 = true) ((FT_layWayTo h2 u1 x7 a8).bind (fun r10 =>
    gR r10 a0 4 10 (fun a11 =>
    gI r10 a0 4 1 (fun x12 =>
    gd (isO r10 a11 0 = true) ((FC_appendNumber r10 a11 p2 x12).bind (fun r14 =>
    j6 r14)))))))))
  else
    (gR h2 u1 3 7 (fun a15 =>
    ldI h2 a15 0 p2 (fun x16 =>
    gR h2 a0 4 10 (fun a17 =>
    gd (isO h2 u1 3 = true) ((FT_layWayTo h2 u1 x16 a17).bind (fun r19 =>
    j6 r19)))))))))))
set_option maxRecDepth 100000 in
set_option maxHeartbeats 4000000 in
theorem mA_layCode (l : Launch) (h0 : Hp) (z0 : Nat) (a0 : Nat) (u1 : Nat) (p2 : Int32) (r : Hp) (hr : FA_layCode h0 a0 u1 p2 = some r) : vM False l yA_layCode (Cond.code yA_layCode prog_1_method_30_code 3 none :: gW) 2 [.ref a0, .ref u1, .int p2] h0 z0 r z0 none 0 0 := by
  refine vM.of (by decide) rfl (Nat.le_of_ble_eq_true rfl) ?_
  intro p e s m args below meth c D dA C hin2
  refine (?_ : vO p l e (vR 2 0 0) s m args below meth c D dA (vA h0 z0) 3 False (fun r : Hp => MQ below (vQc False h0 z0 D dA r z0 none) args s 0 0 (vAr False h0 z0)) 0 0 h0 z0 [(0, .ref a0), (1, .ref u1), (2, .int p2)] 0 [] (FA_layCode h0 a0 u1 p2)) r hr
  obtain ⟨Q, hQ⟩ : ∃ Q : Hp → State → Prop, Q = (fun r : Hp => MQ below (vQc False h0 z0 D dA r z0 none) args s 0 0 (vAr False h0 z0)) := ⟨_, rfl⟩
  rw [← hQ]
  unfold FA_layCode
  refine v_aload_n C dA_layCode_0 rfl 0 rfl ?_
  refine v_getR C v_cl4 (by decide) in_4 rfl w_210 dA_layCode_1 (fun a1 => ?_)
  refine v_iconst (v := 0) C dA_layCode_4 (by decide) ?_
  refine v_putN C v_cl0 (by decide) in_0 ty_0 ty_0_ok nm_0 rfl (nf_1 C.2.2.2.2.2.2.2.2.2) rfl (ty := .int) (by decide +kernel) rfl rfl dA_layCode_5 (fun h2 => ?_)
  refine v_aload_n C dA_layCode_8 rfl 1 rfl ?_
  refine v_iload_n C dA_layCode_9 rfl 2 rfl ?_
  refine v_gd fun hO3 => ?_
  refine v_bind fun r4 hr4 => ?_
  refine v_callV0 (N := 1) (As := [.int p2]) (st := []) C (fun _ => trivial) (mT_hasLeafOf l h2 z0 u1 p2 r4 hr4) rfl w_280 w_50 (by decide +kernel) ⟨Nat.le_of_ble_eq_true rfl, Nat.le_of_ble_eq_true rfl⟩ rfl rfl (Nat.le_of_ble_eq_true rfl) ⟨Nat.zero_le _, Nat.zero_le _⟩ w_277 w_278 w_279 v_cl3 rfl hO3 dA_layCode_10 ?_
  refine v_jn (fun (j : Hp → Option Hp) => ∀ (h5 : Hp), vO p l e (vR 2 0 0) s m args below meth c D dA (vA h0 z0) 3 False Q 0 0 h5 z0 [] 57 [] (j h5)) ?_ (fun j6 Hj6 => ?_)
  · intro h5
    exact v_vret C dA_layCode_57 (by rw [hQ])
  · refine v_if_eq (tgt := 33) C dA_layCode_13 (by decide) ?_ ?_
    · refine v_aload_n C dA_layCode_33 rfl 1 rfl ?_
      refine v_aload_n C dA_layCode_34 rfl 1 rfl ?_
      refine v_getIN C v_cl3 (by decide) in_3 rfl (nf_2 C.2.2.2.2.2.2.2.2.2) dA_layCode_35 (fun x7 => ?_)
      refine v_aload_n C dA_layCode_38 rfl 0 rfl ?_
      refine v_getR C v_cl4 (by decide) in_4 rfl w_210 dA_layCode_39 (fun a8 => ?_)
      refine v_gd fun hO9 => ?_
      refine v_bind fun r10 hr10 => ?_
      refine v_callV0 (N := 2) (As := [.int x7, .ref a8]) (st := []) C (fun f => f.elim) (mT_layWayTo l h2 z0 u1 x7 a8 r10 hr10) rfl w_284 w_50 (by decide +kernel) ⟨Nat.le_of_ble_eq_true rfl, Nat.le_of_ble_eq_true rfl⟩ rfl rfl (Nat.le_of_ble_eq_true rfl) ⟨Nat.zero_le _, Nat.zero_le _⟩ w_281 w_282 w_283 v_cl3 rfl hO9 dA_layCode_42 ?_
      refine v_aload_n C dA_layCode_45 rfl 0 rfl ?_
      refine v_getR C v_cl4 (by decide) in_4 rfl w_210 dA_layCode_46 (fun a11 => ?_)
      refine v_iload_n C dA_layCode_49 rfl 2 rfl ?_
      refine v_aload_n C dA_layCode_50 rfl 0 rfl ?_
      refine v_getI C v_cl4 (by decide) in_4 rfl w_201 dA_layCode_51 (fun x12 => ?_)
      refine v_gd fun hO13 => ?_
      refine v_bind fun r14 hr14 => ?_
      refine v_callV0 (N := 2) (As := [.int p2, .int x12]) (st := []) C (fun f => f.elim) (mC_appendNumber l r10 z0 a11 p2 x12 r14 hr14) rfl w_296 w_48 (by decide +kernel) ⟨Nat.le_of_ble_eq_true rfl, Nat.le_of_ble_eq_true rfl⟩ rfl rfl (Nat.le_of_ble_eq_true rfl) ⟨Nat.zero_le _, Nat.zero_le _⟩ w_293 w_294 w_295 v_cl0 rfl hO13 dA_layCode_54 ?_
      refine v_lv (lv' := []) [] rfl ?_
      exact Hj6 r14
    · refine v_aload_n C dA_layCode_16 rfl 1 rfl ?_
      refine v_aload_n C dA_layCode_17 rfl 1 rfl ?_
      refine v_getRN C v_cl3 (by decide) in_3 rfl (nf_9 C.2.2.2.2.2.2.2.2.2) dA_layCode_18 (fun a15 => ?_)
      refine v_iload_n C dA_layCode_21 rfl 2 rfl ?_
      refine v_iald C rfl dA_layCode_22 (fun x16 => ?_)
      refine v_aload_n C dA_layCode_23 rfl 0 rfl ?_
      refine v_getR C v_cl4 (by decide) in_4 rfl w_210 dA_layCode_24 (fun a17 => ?_)
      refine v_gd fun hO18 => ?_
      refine v_bind fun r19 hr19 => ?_
      refine v_callV0 (N := 2) (As := [.int x16, .ref a17]) (st := []) C (fun f => f.elim) (mT_layWayTo l h2 z0 u1 x16 a17 r19 hr19) rfl w_284 w_50 (by decide +kernel) ⟨Nat.le_of_ble_eq_true rfl, Nat.le_of_ble_eq_true rfl⟩ rfl rfl (Nat.le_of_ble_eq_true rfl) ⟨Nat.zero_le _, Nat.zero_le _⟩ w_281 w_282 w_283 v_cl3 rfl hO18 dA_layCode_27 ?_
      refine v_goto (tgt := 57) C dA_layCode_30 (by decide) ?_
      refine v_lv (lv' := []) [] rfl ?_
      exact Hj6 r19
theorem dC_bitAt_0 : decode prog_2_method_2_code 0 = .ok (.iload_n 1, 1) := by decide +kernel
theorem dC_bitAt_1 : decode prog_2_method_2_code 1 = .ok (.ifCond .lt 20, 3) := by decide +kernel
theorem dC_bitAt_4 : decode prog_2_method_2_code 4 = .ok (.iload_n 1, 1) := by decide +kernel
theorem dC_bitAt_5 : decode prog_2_method_2_code 5 = .ok (.aload_n 0, 1) := by decide +kernel
theorem dC_bitAt_6 : decode prog_2_method_2_code 6 = .ok (.getfield 9, 3) := by decide +kernel
theorem dC_bitAt_9 : decode prog_2_method_2_code 9 = .ok (.if_icmp .ge 12, 3) := by decide +kernel
theorem dC_bitAt_12 : decode prog_2_method_2_code 12 = .ok (.aload_n 0, 1) := by decide +kernel
theorem dC_bitAt_13 : decode prog_2_method_2_code 13 = .ok (.getfield 15, 3) := by decide +kernel
theorem dC_bitAt_16 : decode prog_2_method_2_code 16 = .ok (.iload_n 1, 1) := by decide +kernel
theorem dC_bitAt_17 : decode prog_2_method_2_code 17 = .ok (.iaload, 1) := by decide +kernel
theorem dC_bitAt_18 : decode prog_2_method_2_code 18 = .ok (.goto 4, 3) := by decide +kernel
theorem dC_bitAt_21 : decode prog_2_method_2_code 21 = .ok (.iconst (-1), 1) := by decide +kernel
theorem dC_bitAt_22 : decode prog_2_method_2_code 22 = .ok (.ireturn, 1) := by decide +kernel
def FC_bitAt (h0 : Hp) (a0 : Nat) (p1 : Int32) : Option Int32 :=
  jn (fun (y1 : Int32) =>
  some y1)
  (fun (j2 : Int32 → Option Int32) =>
  jn (j2 (-1))
  (fun (j3 : Option Int32) =>
  if p1 < 0 then
    (j3)
  else
    (gI h0 a0 0 1 (fun x4 =>
    if x4 ≤ p1 then
      (j3)
    else
      (gR h0 a0 0 0 (fun a5 =>
      ldI h0 a5 0 p1 (fun x6 =>
      j2 x6)))))))
set_option maxRecDepth 100000 in
set_option maxHeartbeats 4000000 in
theorem mC_bitAt (l : Launch) (h0 : Hp) (z0 : Nat) (a0 : Nat) (p1 : Int32) (r : Int32) (hr : FC_bitAt h0 a0 p1 = some r) : vM True l yC_bitAt (Cond.code yC_bitAt prog_2_method_2_code 2 (some (.int)) :: gW) 0 [.ref a0, .int p1] h0 z0 h0 z0 (some (.int r)) 0 0 := by
  refine vM.of (by decide) rfl (Nat.le_of_ble_eq_true rfl) ?_
  intro p e s m args below meth c D dA C hin2
  refine (?_ : vO p l e (vR 0 0 0) s m args below meth c D dA (vA h0 z0) 2 True (fun r : Int32 => MQ below (vQc True h0 z0 D dA h0 z0 (some (.int r))) args s 0 0 (vAr True h0 z0)) 0 0 h0 z0 [(0, .ref a0), (1, .int p1)] 0 [] (FC_bitAt h0 a0 p1)) r hr
  obtain ⟨Q, hQ⟩ : ∃ Q : Int32 → State → Prop, Q = (fun r : Int32 => MQ below (vQc True h0 z0 D dA h0 z0 (some (.int r))) args s 0 0 (vAr True h0 z0)) := ⟨_, rfl⟩
  rw [← hQ]
  unfold FC_bitAt
  refine v_iload_n C dC_bitAt_0 rfl 1 rfl ?_
  refine v_jn (fun (j : Int32 → Option Int32) => ∀ (y1 : Int32), vO p l e (vR 0 0 0) s m args below meth c D dA (vA h0 z0) 2 True Q 0 0 h0 z0 [] 22 [.int y1] (j y1)) ?_ (fun j2 Hj2 => ?_)
  · intro y1
    exact v_iret C dC_bitAt_22 (by rw [hQ])
  · refine v_jn (fun (j : Option Int32) => vO p l e (vR 0 0 0) s m args below meth c D dA (vA h0 z0) 2 True Q 0 0 h0 z0 [] 21 [] j) ?_ (fun j3 Hj3 => ?_)
    · refine v_iconst (v := (-1)) C dC_bitAt_21 (by decide) ?_
      exact Hj2 (-1)
    · refine v_if_lt (tgt := 21) C dC_bitAt_1 (by decide) ?_ ?_
      · refine v_lv (lv' := []) [] rfl ?_
        exact Hj3
      · refine v_iload_n C dC_bitAt_4 rfl 1 rfl ?_
        refine v_aload_n C dC_bitAt_5 rfl 0 rfl ?_
        refine v_getI C v_cl0 (by decide) in_0 rfl w_110 dC_bitAt_6 (fun x4 => ?_)
        refine v_icmp_ge (tgt := 21) C dC_bitAt_9 (by decide) ?_ ?_
        · refine v_lv (lv' := []) [] rfl ?_
          exact Hj3
        · refine v_aload_n C dC_bitAt_12 rfl 0 rfl ?_
          refine v_getR C v_cl0 (by decide) in_0 rfl w_109 dC_bitAt_13 (fun a5 => ?_)
          refine v_iload_n C dC_bitAt_16 rfl 1 rfl ?_
          refine v_iald C rfl dC_bitAt_17 (fun x6 => ?_)
          refine v_goto (tgt := 22) C dC_bitAt_18 (by decide) ?_
          refine v_lv (lv' := []) [] rfl ?_
          exact Hj2 x6
