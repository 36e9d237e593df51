theorem dM_knows_0 : decode prog_7_method_35_code 0 = .ok (.aload_n 0, 1) := by decide +kernel
theorem dM_knows_1 : decode prog_7_method_35_code 1 = .ok (.iconst 0, 1) := by decide +kernel
theorem dM_knows_2 : decode prog_7_method_35_code 2 = .ok (.putfield 73, 3) := by decide +kernel
theorem dM_knows_5 : decode prog_7_method_35_code 5 = .ok (.iload_n 1, 1) := by decide +kernel
theorem dM_knows_6 : decode prog_7_method_35_code 6 = .ok (.iload_n 2, 1) := by decide +kernel
theorem dM_knows_7 : decode prog_7_method_35_code 7 = .ok (.invokestatic 160, 3) := by decide +kernel
theorem dM_knows_10 : decode prog_7_method_35_code 10 = .ok (.ifCond .ne 6, 3) := by decide +kernel
theorem dM_knows_13 : decode prog_7_method_35_code 13 = .ok (.bipush (-2), 2) := by decide +kernel
theorem dM_knows_15 : decode prog_7_method_35_code 15 = .ok (.ireturn, 1) := by decide +kernel
theorem dM_knows_16 : decode prog_7_method_35_code 16 = .ok (.iload_n 3, 1) := by decide +kernel
theorem dM_knows_17 : decode prog_7_method_35_code 17 = .ok (.iconst 0, 1) := by decide +kernel
theorem dM_knows_18 : decode prog_7_method_35_code 18 = .ok (.aload_n 0, 1) := by decide +kernel
theorem dM_knows_19 : decode prog_7_method_35_code 19 = .ok (.getfield 56, 3) := by decide +kernel
theorem dM_knows_22 : decode prog_7_method_35_code 22 = .ok (.iconst 1, 1) := by decide +kernel
theorem dM_knows_23 : decode prog_7_method_35_code 23 = .ok (.isub, 1) := by decide +kernel
theorem dM_knows_24 : decode prog_7_method_35_code 24 = .ok (.invokestatic 76, 3) := by decide +kernel
theorem dM_knows_27 : decode prog_7_method_35_code 27 = .ok (.ifCond .ne 6, 3) := by decide +kernel
theorem dM_knows_30 : decode prog_7_method_35_code 30 = .ok (.bipush (-3), 2) := by decide +kernel
theorem dM_knows_32 : decode prog_7_method_35_code 32 = .ok (.ireturn, 1) := by decide +kernel
theorem dM_knows_33 : decode prog_7_method_35_code 33 = .ok (.aload_n 0, 1) := by decide +kernel
theorem dM_knows_34 : decode prog_7_method_35_code 34 = .ok (.iconst 4, 1) := by decide +kernel
theorem dM_knows_35 : decode prog_7_method_35_code 35 = .ok (.iload_n 1, 1) := by decide +kernel
theorem dM_knows_36 : decode prog_7_method_35_code 36 = .ok (.imul, 1) := by decide +kernel
theorem dM_knows_37 : decode prog_7_method_35_code 37 = .ok (.iload_n 2, 1) := by decide +kernel
theorem dM_knows_38 : decode prog_7_method_35_code 38 = .ok (.iadd, 1) := by decide +kernel
theorem dM_knows_39 : decode prog_7_method_35_code 39 = .ok (.iload_n 3, 1) := by decide +kernel
theorem dM_knows_40 : decode prog_7_method_35_code 40 = .ok (.invokevirtual 121, 3) := by decide +kernel
theorem dM_knows_43 : decode prog_7_method_35_code 43 = .ok (.ifCond .eq 7, 3) := by decide +kernel
theorem dM_knows_46 : decode prog_7_method_35_code 46 = .ok (.iconst 1, 1) := by decide +kernel
theorem dM_knows_47 : decode prog_7_method_35_code 47 = .ok (.goto 4, 3) := by decide +kernel
theorem dM_knows_50 : decode prog_7_method_35_code 50 = .ok (.iconst 0, 1) := by decide +kernel
theorem dM_knows_51 : decode prog_7_method_35_code 51 = .ok (.ireturn, 1) := by decide +kernel
def FM_knows (h0 : Hp) (a0 : Nat) (p1 : Int32) (p2 : Int32) (p3 : Int32) : Option (Hp × Int32) :=
  pF h0 a0 5 20 (.int 0) (fun h1 =>
  (FM_isTree h1 p1 p2).bind (fun r2 =>
  if r2 = 0 then
    (some (h1, (-2)))
  else
    (gI h1 a0 5 0 (fun x3 =>
    (FM_isIn h1 p3 0 (x3 - 1)).bind (fun r4 =>
    if r4 = 0 then
      (some (h1, (-3)))
    else
      (gd (isO h1 a0 5 = true) ((FM_isKnown h1 a0 ((4 * p1) + p2) p3).bind (fun r6 =>
      jn (fun (y7 : Int32) =>
      some (h1, y7))
      (fun (j8 : Int32 → Option (Hp × Int32)) =>
      if r6 = 0 then
        (j8 0)
      else
        (j8 1))))))))))
set_option maxRecDepth 100000 in
set_option maxHeartbeats 4000000 in
theorem mM_knows (l : Launch) (h0 : Hp) (z0 : Nat) (a0 : Nat) (p1 : Int32) (p2 : Int32) (p3 : Int32) (r : (Hp × Int32)) (hr : FM_knows h0 a0 p1 p2 p3 = some r) : vM False l yM_knows (Cond.code yM_knows prog_7_method_35_code 4 (some (.int)) :: gW) 2 [.ref a0, .int p1, .int p2, .int p3] h0 z0 r.1 z0 (some (.int r.2)) 0 0 := by
  refine vM.of (by decide) rfl (Nat.le_of_ble_eq_true rfl) ?_
  intro p e s m args below meth c D dA C hin2
  refine (?_ : vO p l e (vR 2 0 0) s m args below meth c D dA (vA h0 z0) 4 False (fun r : (Hp × Int32) => MQ below (vQc False h0 z0 D dA r.1 z0 (some (.int r.2))) args s 0 0 (vAr False h0 z0)) 0 0 h0 z0 [(0, .ref a0), (1, .int p1), (2, .int p2), (3, .int p3)] 0 [] (FM_knows h0 a0 p1 p2 p3)) r hr
  obtain ⟨Q, hQ⟩ : ∃ Q : (Hp × Int32) → State → Prop, Q = (fun r : (Hp × Int32) => MQ below (vQc False h0 z0 D dA r.1 z0 (some (.int r.2))) args s 0 0 (vAr False h0 z0)) := ⟨_, rfl⟩
  rw [← hQ]
  unfold FM_knows
  refine v_aload_n C dM_knows_0 rfl 0 rfl ?_
  refine v_iconst (v := 0) C dM_knows_1 (by decide) ?_
  refine v_put C v_cl5 (by decide) in_5 ty_5 ty_5_ok nm_5 rfl w_629 rfl (ty := .int) (by decide +kernel) rfl rfl dM_knows_2 (fun h1 => ?_)
  refine v_iload_n C dM_knows_5 rfl 1 rfl ?_
  refine v_iload_n C dM_knows_6 rfl 2 rfl ?_
  refine v_bind fun r2 hr2 => ?_
  refine v_callS0 (N := 2) (As := [.int p1, .int p2]) (st := []) C (fun _ => trivial) (mM_isTree l h1 z0 p1 p2 r2 hr2) rfl w_810 w_53 (by decide +kernel) ⟨Nat.le_of_ble_eq_true rfl, Nat.le_of_ble_eq_true rfl⟩ rfl rfl (Nat.le_of_ble_eq_true rfl) ⟨Nat.zero_le _, Nat.zero_le _⟩ w_808 w_809 dM_knows_7 ?_
  refine v_if_ne (tgt := 16) C dM_knows_10 (by decide) ?_ ?_
  · refine v_iload_n C dM_knows_16 rfl 3 rfl ?_
    refine v_iconst (v := 0) C dM_knows_17 (by decide) ?_
    refine v_aload_n C dM_knows_18 rfl 0 rfl ?_
    refine v_getI C v_cl5 (by decide) in_5 rfl w_609 dM_knows_19 (fun x3 => ?_)
    refine v_iconst (v := 1) C dM_knows_22 (by decide) ?_
    refine v_isub C dM_knows_23 ?_
    refine v_bind fun r4 hr4 => ?_
    refine v_callS0 (N := 3) (As := [.int p3, .int 0, .int (x3 - 1)]) (st := []) C (fun _ => trivial) (mM_isIn l h1 z0 p3 0 (x3 - 1) r4 hr4) rfl w_698 w_53 (by decide +kernel) ⟨Nat.le_of_ble_eq_true rfl, Nat.le_of_ble_eq_true rfl⟩ rfl rfl (Nat.le_of_ble_eq_true rfl) ⟨Nat.zero_le _, Nat.zero_le _⟩ w_696 w_697 dM_knows_24 ?_
    refine v_if_ne (tgt := 33) C dM_knows_27 (by decide) ?_ ?_
    · refine v_aload_n C dM_knows_33 rfl 0 rfl ?_
      refine v_iconst (v := 4) C dM_knows_34 (by decide) ?_
      refine v_iload_n C dM_knows_35 rfl 1 rfl ?_
      refine v_imul C dM_knows_36 ?_
      refine v_iload_n C dM_knows_37 rfl 2 rfl ?_
      refine v_iadd C dM_knows_38 ?_
      refine v_iload_n C dM_knows_39 rfl 3 rfl ?_
      refine v_gd fun hO5 => ?_
      refine v_bind fun r6 hr6 => ?_
      refine v_callV0 (N := 2) (As := [.int ((4 * p1) + p2), .int p3]) (st := []) C (fun _ => trivial) (mM_isKnown l h1 z0 a0 ((4 * p1) + p2) p3 r6 hr6) rfl w_719 w_53 (by decide +kernel) ⟨Nat.le_of_ble_eq_true rfl, Nat.le_of_ble_eq_true rfl⟩ rfl rfl (Nat.le_of_ble_eq_true rfl) ⟨Nat.zero_le _, Nat.zero_le _⟩ w_716 w_718 w_27 v_cl5 rfl hO5 dM_knows_40 ?_
      refine v_jn (fun (j : Int32 → Option (Hp × Int32)) => ∀ (y7 : Int32), vO p l e (vR 2 0 0) s m args below meth c D dA (vA h0 z0) 4 False Q 0 0 h1 z0 [] 51 [.int y7] (j y7)) ?_ (fun j8 Hj8 => ?_)
      · intro y7
        exact v_iret C dM_knows_51 (by rw [hQ])
      · refine v_if_eq (tgt := 50) C dM_knows_43 (by decide) ?_ ?_
        · refine v_iconst (v := 0) C dM_knows_50 (by decide) ?_
          refine v_lv (lv' := []) [] rfl ?_
          exact Hj8 0
        · refine v_iconst (v := 1) C dM_knows_46 (by decide) ?_
          refine v_goto (tgt := 51) C dM_knows_47 (by decide) ?_
          refine v_lv (lv' := []) [] rfl ?_
          exact Hj8 1
    · refine v_bipush (v := (-3)) C dM_knows_30 (by decide) ?_
      exact v_iret C dM_knows_32 (by rw [hQ])
  · refine v_bipush (v := (-2)) C dM_knows_13 (by decide) ?_
    exact v_iret C dM_knows_15 (by rw [hQ])
theorem dM_escape_0 : decode prog_7_method_36_code 0 = .ok (.aload_n 0, 1) := by decide +kernel
theorem dM_escape_1 : decode prog_7_method_36_code 1 = .ok (.iconst 0, 1) := by decide +kernel
theorem dM_escape_2 : decode prog_7_method_36_code 2 = .ok (.putfield 73, 3) := by decide +kernel
theorem dM_escape_5 : decode prog_7_method_36_code 5 = .ok (.iload_n 1, 1) := by decide +kernel
theorem dM_escape_6 : decode prog_7_method_36_code 6 = .ok (.iload_n 2, 1) := by decide +kernel
theorem dM_escape_7 : decode prog_7_method_36_code 7 = .ok (.invokestatic 160, 3) := by decide +kernel
theorem dM_escape_10 : decode prog_7_method_36_code 10 = .ok (.ifCond .ne 6, 3) := by decide +kernel
theorem dM_escape_13 : decode prog_7_method_36_code 13 = .ok (.bipush (-2), 2) := by decide +kernel
theorem dM_escape_15 : decode prog_7_method_36_code 15 = .ok (.ireturn, 1) := by decide +kernel
theorem dM_escape_16 : decode prog_7_method_36_code 16 = .ok (.iconst 4, 1) := by decide +kernel
theorem dM_escape_17 : decode prog_7_method_36_code 17 = .ok (.iload_n 1, 1) := by decide +kernel
theorem dM_escape_18 : decode prog_7_method_36_code 18 = .ok (.imul, 1) := by decide +kernel
theorem dM_escape_19 : decode prog_7_method_36_code 19 = .ok (.iload_n 2, 1) := by decide +kernel
theorem dM_escape_20 : decode prog_7_method_36_code 20 = .ok (.iadd, 1) := by decide +kernel
theorem dM_escape_21 : decode prog_7_method_36_code 21 = .ok (.istore_n 3, 1) := by decide +kernel
theorem dM_escape_22 : decode prog_7_method_36_code 22 = .ok (.aload_n 0, 1) := by decide +kernel
theorem dM_escape_23 : decode prog_7_method_36_code 23 = .ok (.getfield 7, 3) := by decide +kernel
theorem dM_escape_26 : decode prog_7_method_36_code 26 = .ok (.iload_n 3, 1) := by decide +kernel
theorem dM_escape_27 : decode prog_7_method_36_code 27 = .ok (.iaload, 1) := by decide +kernel
theorem dM_escape_28 : decode prog_7_method_36_code 28 = .ok (.iconst 1, 1) := by decide +kernel
theorem dM_escape_29 : decode prog_7_method_36_code 29 = .ok (.if_icmp .ne 5, 3) := by decide +kernel
theorem dM_escape_32 : decode prog_7_method_36_code 32 = .ok (.iconst (-1), 1) := by decide +kernel
theorem dM_escape_33 : decode prog_7_method_36_code 33 = .ok (.ireturn, 1) := by decide +kernel
theorem dM_escape_34 : decode prog_7_method_36_code 34 = .ok (.aload_n 0, 1) := by decide +kernel
theorem dM_escape_35 : decode prog_7_method_36_code 35 = .ok (.iconst 0, 1) := by decide +kernel
theorem dM_escape_36 : decode prog_7_method_36_code 36 = .ok (.putfield 114, 3) := by decide +kernel
theorem dM_escape_39 : decode prog_7_method_36_code 39 = .ok (.aload_n 0, 1) := by decide +kernel
theorem dM_escape_40 : decode prog_7_method_36_code 40 = .ok (.iload_n 3, 1) := by decide +kernel
theorem dM_escape_41 : decode prog_7_method_36_code 41 = .ok (.aload_n 0, 1) := by decide +kernel
theorem dM_escape_42 : decode prog_7_method_36_code 42 = .ok (.iload_n 3, 1) := by decide +kernel
theorem dM_escape_43 : decode prog_7_method_36_code 43 = .ok (.aload_n 0, 1) := by decide +kernel
theorem dM_escape_44 : decode prog_7_method_36_code 44 = .ok (.iload_n 3, 1) := by decide +kernel
theorem dM_escape_45 : decode prog_7_method_36_code 45 = .ok (.bipush (-2), 2) := by decide +kernel
theorem dM_escape_47 : decode prog_7_method_36_code 47 = .ok (.invokevirtual 84, 3) := by decide +kernel
theorem dM_escape_50 : decode prog_7_method_36_code 50 = .ok (.invokevirtual 80, 3) := by decide +kernel
theorem dM_escape_53 : decode prog_7_method_36_code 53 = .ok (.invokevirtual 125, 3) := by decide +kernel
theorem dM_escape_56 : decode prog_7_method_36_code 56 = .ok (.aload_n 0, 1) := by decide +kernel
theorem dM_escape_57 : decode prog_7_method_36_code 57 = .ok (.getfield 114, 3) := by decide +kernel
theorem dM_escape_60 : decode prog_7_method_36_code 60 = .ok (.ireturn, 1) := by decide +kernel
def FM_escape (h0 : Hp) (a0 : Nat) (p1 : Int32) (p2 : Int32) : Option (Hp × Int32) :=
  pF h0 a0 5 20 (.int 0) (fun h1 =>
  (FM_isTree h1 p1 p2).bind (fun r2 =>
  if r2 = 0 then
    (some (h1, (-2)))
  else
    (gR h1 a0 5 3 (fun a3 =>
    ldI h1 a3 0 ((4 * p1) + p2) (fun x4 =>
    if x4 = 1 then
      (some (h1, (-1)))
    else
      (pF h1 a0 5 25 (.int 0) (fun h5 =>
      gd (isO h5 a0 5 = true) ((FM_nodeOf h5 a0 ((4 * p1) + p2) (-2)).bind (fun r7 =>
      gd (isO h5 a0 5 = true) ((FM_placeOf h5 a0 ((4 * p1) + p2) r7).bind (fun r9 =>
      gd (isO h5 a0 5 = true) ((FM_wayUp h5 a0 ((4 * p1) + p2) r9).bind (fun r11 =>
      gI r11 a0 5 25 (fun x12 =>
      some (r11, x12)))))))))))))))
set_option maxRecDepth 100000 in
set_option maxHeartbeats 4000000 in
theorem mM_escape (l : Launch) (h0 : Hp) (z0 : Nat) (a0 : Nat) (p1 : Int32) (p2 : Int32) (r : (Hp × Int32)) (hr : FM_escape h0 a0 p1 p2 = some r) : vM False l yM_escape (Cond.code yM_escape prog_7_method_36_code 4 (some (.int)) :: gW) 3 [.ref a0, .int p1, .int p2] h0 z0 r.1 z0 (some (.int r.2)) 0 0 := by
  refine vM.of (by decide) rfl (Nat.le_of_ble_eq_true rfl) ?_
  intro p e s m args below meth c D dA C hin2
  refine (?_ : vO p l e (vR 3 0 0) s m args below meth c D dA (vA h0 z0) 4 False (fun r : (Hp × Int32) => MQ below (vQc False h0 z0 D dA r.1 z0 (some (.int r.2))) args s 0 0 (vAr False h0 z0)) 0 0 h0 z0 [(0, .ref a0), (1, .int p1), (2, .int p2)] 0 [] (FM_escape h0 a0 p1 p2)) r hr
  obtain ⟨Q, hQ⟩ : ∃ Q : (Hp × Int32) → State → Prop, Q = (fun r : (Hp × Int32) => MQ below (vQc False h0 z0 D dA r.1 z0 (some (.int r.2))) args s 0 0 (vAr False h0 z0)) := ⟨_, rfl⟩
  rw [← hQ]
  unfold FM_escape
  refine v_aload_n C dM_escape_0 rfl 0 rfl ?_
  refine v_iconst (v := 0) C dM_escape_1 (by decide) ?_
  refine v_put C v_cl5 (by decide) in_5 ty_5 ty_5_ok nm_5 rfl w_629 rfl (ty := .int) (by decide +kernel) rfl rfl dM_escape_2 (fun h1 => ?_)
  refine v_iload_n C dM_escape_5 rfl 1 rfl ?_
  refine v_iload_n C dM_escape_6 rfl 2 rfl ?_
  refine v_bind fun r2 hr2 => ?_
  refine v_callS0 (N := 2) (As := [.int p1, .int p2]) (st := []) C (fun _ => trivial) (mM_isTree l h1 z0 p1 p2 r2 hr2) rfl w_810 w_53 (by decide +kernel) ⟨Nat.le_of_ble_eq_true rfl, Nat.le_of_ble_eq_true rfl⟩ rfl rfl (Nat.le_of_ble_eq_true rfl) ⟨Nat.zero_le _, Nat.zero_le _⟩ w_808 w_809 dM_escape_7 ?_
  refine v_if_ne (tgt := 16) C dM_escape_10 (by decide) ?_ ?_
  · refine v_iconst (v := 4) C dM_escape_16 (by decide) ?_
    refine v_iload_n C dM_escape_17 rfl 1 rfl ?_
    refine v_imul C dM_escape_18 ?_
    refine v_iload_n C dM_escape_19 rfl 2 rfl ?_
    refine v_iadd C dM_escape_20 ?_
    refine v_istore_n (lv' := [(0, .ref a0), (3, .int ((4 * p1) + p2))]) C dM_escape_21 rfl (by decide) [1, 0] rfl ?_
    refine v_aload_n C dM_escape_22 rfl 0 rfl ?_
    refine v_getR C v_cl5 (by decide) in_5 rfl w_612 dM_escape_23 (fun a3 => ?_)
    refine v_iload_n C dM_escape_26 rfl 1 rfl ?_
    refine v_iald C rfl dM_escape_27 (fun x4 => ?_)
    refine v_iconst (v := 1) C dM_escape_28 (by decide) ?_
    refine v_icmp_ne (tgt := 34) C dM_escape_29 (by decide) ?_ ?_
    · refine v_aload_n C dM_escape_34 rfl 0 rfl ?_
      refine v_iconst (v := 0) C dM_escape_35 (by decide) ?_
      refine v_put C v_cl5 (by decide) in_5 ty_5 ty_5_ok nm_5 rfl w_634 rfl (ty := .int) (by decide +kernel) rfl rfl dM_escape_36 (fun h5 => ?_)
      refine v_aload_n C dM_escape_39 rfl 0 rfl ?_
      refine v_iload_n C dM_escape_40 rfl 1 rfl ?_
      refine v_aload_n C dM_escape_41 rfl 0 rfl ?_
      refine v_iload_n C dM_escape_42 rfl 1 rfl ?_
      refine v_aload_n C dM_escape_43 rfl 0 rfl ?_
      refine v_iload_n C dM_escape_44 rfl 1 rfl ?_
      refine v_bipush (v := (-2)) C dM_escape_45 (by decide) ?_
      refine v_gd fun hO6 => ?_
      refine v_bind fun r7 hr7 => ?_
      refine v_callV0 (N := 2) (As := [.int ((4 * p1) + p2), .int (-2)]) (st := [.int ((4 * p1) + p2), .ref a0, .int ((4 * p1) + p2), .ref a0]) C (fun _ => trivial) (mM_nodeOf l h5 z0 a0 ((4 * p1) + p2) (-2) r7 hr7) rfl w_723 w_53 (by decide +kernel) ⟨Nat.le_of_ble_eq_true rfl, Nat.le_of_ble_eq_true rfl⟩ rfl rfl (Nat.le_of_ble_eq_true rfl) ⟨Nat.zero_le _, Nat.zero_le _⟩ w_720 w_722 w_28 v_cl5 rfl hO6 dM_escape_47 ?_
      refine v_gd fun hO8 => ?_
      refine v_bind fun r9 hr9 => ?_
      refine v_callV0 (N := 2) (As := [.int ((4 * p1) + p2), .int r7]) (st := [.int ((4 * p1) + p2), .ref a0]) C (fun _ => trivial) (mM_placeOf l h5 z0 a0 ((4 * p1) + p2) r7 r9 hr9) rfl w_727 w_53 (by decide +kernel) ⟨Nat.le_of_ble_eq_true rfl, Nat.le_of_ble_eq_true rfl⟩ rfl rfl (Nat.le_of_ble_eq_true rfl) ⟨Nat.zero_le _, Nat.zero_le _⟩ w_724 w_726 w_29 v_cl5 rfl hO8 dM_escape_50 ?_
      refine v_gd fun hO10 => ?_
      refine v_bind fun r11 hr11 => ?_
      refine v_callV0 (N := 2) (As := [.int ((4 * p1) + p2), .int r9]) (st := []) C (fun f => f.elim) (mM_wayUp l h5 z0 a0 ((4 * p1) + p2) r9 r11 hr11) rfl w_731 w_53 (by decide +kernel) ⟨Nat.le_of_ble_eq_true rfl, Nat.le_of_ble_eq_true rfl⟩ rfl rfl (Nat.le_of_ble_eq_true rfl) ⟨Nat.zero_le _, Nat.zero_le _⟩ w_728 w_730 w_30 v_cl5 rfl hO10 dM_escape_53 ?_
      refine v_aload_n C dM_escape_56 rfl 0 rfl ?_
      refine v_getI C v_cl5 (by decide) in_5 rfl w_634 dM_escape_57 (fun x12 => ?_)
      exact v_iret C dM_escape_60 (by rw [hQ])
    · refine v_iconst (v := (-1)) C dM_escape_32 (by decide) ?_
      exact v_iret C dM_escape_33 (by rw [hQ])
  · refine v_bipush (v := (-2)) C dM_escape_13 (by decide) ?_
    exact v_iret C dM_escape_15 (by rw [hQ])
theorem dM_halved_0 : decode prog_7_method_37_code 0 = .ok (.aload_n 0, 1) := by decide +kernel
theorem dM_halved_1 : decode prog_7_method_37_code 1 = .ok (.iconst 0, 1) := by decide +kernel
theorem dM_halved_2 : decode prog_7_method_37_code 2 = .ok (.putfield 73, 3) := by decide +kernel
theorem dM_halved_5 : decode prog_7_method_37_code 5 = .ok (.iload_n 1, 1) := by decide +kernel
theorem dM_halved_6 : decode prog_7_method_37_code 6 = .ok (.iload_n 2, 1) := by decide +kernel
theorem dM_halved_7 : decode prog_7_method_37_code 7 = .ok (.invokestatic 160, 3) := by decide +kernel
theorem dM_halved_10 : decode prog_7_method_37_code 10 = .ok (.ifCond .eq 16, 3) := by decide +kernel
theorem dM_halved_13 : decode prog_7_method_37_code 13 = .ok (.aload_n 0, 1) := by decide +kernel
theorem dM_halved_14 : decode prog_7_method_37_code 14 = .ok (.getfield 16, 3) := by decide +kernel
theorem dM_halved_17 : decode prog_7_method_37_code 17 = .ok (.iconst 4, 1) := by decide +kernel
theorem dM_halved_18 : decode prog_7_method_37_code 18 = .ok (.iload_n 1, 1) := by decide +kernel
theorem dM_halved_19 : decode prog_7_method_37_code 19 = .ok (.imul, 1) := by decide +kernel
theorem dM_halved_20 : decode prog_7_method_37_code 20 = .ok (.iload_n 2, 1) := by decide +kernel
theorem dM_halved_21 : decode prog_7_method_37_code 21 = .ok (.iadd, 1) := by decide +kernel
theorem dM_halved_22 : decode prog_7_method_37_code 22 = .ok (.iaload, 1) := by decide +kernel
theorem dM_halved_23 : decode prog_7_method_37_code 23 = .ok (.goto 5, 3) := by decide +kernel
theorem dM_halved_26 : decode prog_7_method_37_code 26 = .ok (.bipush (-2), 2) := by decide +kernel
theorem dM_halved_28 : decode prog_7_method_37_code 28 = .ok (.ireturn, 1) := by decide +kernel
def FM_halved (h0 : Hp) (a0 : Nat) (p1 : Int32) (p2 : Int32) : Option (Hp × Int32) :=
  pF h0 a0 5 20 (.int 0) (fun h1 =>
  (FM_isTree h1 p1 p2).bind (fun r2 =>
  jn (fun (y3 : Int32) =>
  some (h1, y3))
  (fun (j4 : Int32 → Option (Hp × Int32)) =>
  if r2 = 0 then
    (j4 (-2))
  else
    (gR h1 a0 5 5 (fun a5 =>
    ldI h1 a5 0 ((4 * p1) + p2) (fun x6 =>
    j4 x6))))))
set_option maxRecDepth 100000 in
set_option maxHeartbeats 4000000 in
theorem mM_halved (l : Launch) (h0 : Hp) (z0 : Nat) (a0 : Nat) (p1 : Int32) (p2 : Int32) (r : (Hp × Int32)) (hr : FM_halved h0 a0 p1 p2 = some r) : vM False l yM_halved (Cond.code yM_halved prog_7_method_37_code 3 (some (.int)) :: gW) 2 [.ref a0, .int p1, .int p2] h0 z0 r.1 z0 (some (.int r.2)) 0 0 := by
  refine vM.of (by decide) rfl (Nat.le_of_ble_eq_true rfl) ?_
  intro p e s m args below meth c D dA C hin2
  refine (?_ : vO p l e (vR 2 0 0) s m args below meth c D dA (vA h0 z0) 3 False (fun r : (Hp × Int32) => MQ below (vQc False h0 z0 D dA r.1 z0 (some (.int r.2))) args s 0 0 (vAr False h0 z0)) 0 0 h0 z0 [(0, .ref a0), (1, .int p1), (2, .int p2)] 0 [] (FM_halved h0 a0 p1 p2)) r hr
  obtain ⟨Q, hQ⟩ : ∃ Q : (Hp × Int32) → State → Prop, Q = (fun r : (Hp × Int32) => MQ below (vQc False h0 z0 D dA r.1 z0 (some (.int r.2))) args s 0 0 (vAr False h0 z0)) := ⟨_, rfl⟩
  rw [← hQ]
  unfold FM_halved
  refine v_aload_n C dM_halved_0 rfl 0 rfl ?_
  refine v_iconst (v := 0) C dM_halved_1 (by decide) ?_
  refine v_put C v_cl5 (by decide) in_5 ty_5 ty_5_ok nm_5 rfl w_629 rfl (ty := .int) (by decide +kernel) rfl rfl dM_halved_2 (fun h1 => ?_)
  refine v_iload_n C dM_halved_5 rfl 1 rfl ?_
  refine v_iload_n C dM_halved_6 rfl 2 rfl ?_
  refine v_bind fun r2 hr2 => ?_
  refine v_callS0 (N := 2) (As := [.int p1, .int p2]) (st := []) C (fun _ => trivial) (mM_isTree l h1 z0 p1 p2 r2 hr2) rfl w_810 w_53 (by decide +kernel) ⟨Nat.le_of_ble_eq_true rfl, Nat.le_of_ble_eq_true rfl⟩ rfl rfl (Nat.le_of_ble_eq_true rfl) ⟨Nat.zero_le _, Nat.zero_le _⟩ w_808 w_809 dM_halved_7 ?_
  refine v_jn (fun (j : Int32 → Option (Hp × Int32)) => ∀ (y3 : Int32), vO p l e (vR 2 0 0) s m args below meth c D dA (vA h0 z0) 3 False Q 0 0 h1 z0 [] 28 [.int y3] (j y3)) ?_ (fun j4 Hj4 => ?_)
  · intro y3
    exact v_iret C dM_halved_28 (by rw [hQ])
  · refine v_if_eq (tgt := 26) C dM_halved_10 (by decide) ?_ ?_
    · refine v_bipush (v := (-2)) C dM_halved_26 (by decide) ?_
      refine v_lv (lv' := []) [] rfl ?_
      exact Hj4 (-2)
    · refine v_aload_n C dM_halved_13 rfl 0 rfl ?_
      refine v_getR C v_cl5 (by decide) in_5 rfl w_614 dM_halved_14 (fun a5 => ?_)
      refine v_iconst (v := 4) C dM_halved_17 (by decide) ?_
      refine v_iload_n C dM_halved_18 rfl 1 rfl ?_
      refine v_imul C dM_halved_19 ?_
      refine v_iload_n C dM_halved_20 rfl 2 rfl ?_
      refine v_iadd C dM_halved_21 ?_
      refine v_iald C rfl dM_halved_22 (fun x6 => ?_)
      refine v_goto (tgt := 28) C dM_halved_23 (by decide) ?_
      refine v_lv (lv' := []) [] rfl ?_
      exact Hj4 x6
theorem dM_nodes_0 : decode prog_7_method_38_code 0 = .ok (.aload_n 0, 1) := by decide +kernel
theorem dM_nodes_1 : decode prog_7_method_38_code 1 = .ok (.iconst 0, 1) := by decide +kernel
theorem dM_nodes_2 : decode prog_7_method_38_code 2 = .ok (.putfield 73, 3) := by decide +kernel
theorem dM_nodes_5 : decode prog_7_method_38_code 5 = .ok (.iload_n 1, 1) := by decide +kernel
theorem dM_nodes_6 : decode prog_7_method_38_code 6 = .ok (.iload_n 2, 1) := by decide +kernel
theorem dM_nodes_7 : decode prog_7_method_38_code 7 = .ok (.invokestatic 160, 3) := by decide +kernel
theorem dM_nodes_10 : decode prog_7_method_38_code 10 = .ok (.ifCond .eq 16, 3) := by decide +kernel
theorem dM_nodes_13 : decode prog_7_method_38_code 13 = .ok (.aload_n 0, 1) := by decide +kernel
theorem dM_nodes_14 : decode prog_7_method_38_code 14 = .ok (.getfield 13, 3) := by decide +kernel
theorem dM_nodes_17 : decode prog_7_method_38_code 17 = .ok (.iconst 4, 1) := by decide +kernel
theorem dM_nodes_18 : decode prog_7_method_38_code 18 = .ok (.iload_n 1, 1) := by decide +kernel
theorem dM_nodes_19 : decode prog_7_method_38_code 19 = .ok (.imul, 1) := by decide +kernel
theorem dM_nodes_20 : decode prog_7_method_38_code 20 = .ok (.iload_n 2, 1) := by decide +kernel
theorem dM_nodes_21 : decode prog_7_method_38_code 21 = .ok (.iadd, 1) := by decide +kernel
theorem dM_nodes_22 : decode prog_7_method_38_code 22 = .ok (.iaload, 1) := by decide +kernel
theorem dM_nodes_23 : decode prog_7_method_38_code 23 = .ok (.goto 5, 3) := by decide +kernel
theorem dM_nodes_26 : decode prog_7_method_38_code 26 = .ok (.bipush (-2), 2) := by decide +kernel
theorem dM_nodes_28 : decode prog_7_method_38_code 28 = .ok (.ireturn, 1) := by decide +kernel
def FM_nodes (h0 : Hp) (a0 : Nat) (p1 : Int32) (p2 : Int32) : Option (Hp × Int32) :=
  pF h0 a0 5 20 (.int 0) (fun h1 =>
  (FM_isTree h1 p1 p2).bind (fun r2 =>
  jn (fun (y3 : Int32) =>
  some (h1, y3))
  (fun (j4 : Int32 → Option (Hp × Int32)) =>
  if r2 = 0 then
    (j4 (-2))
  else
    (gR h1 a0 5 4 (fun a5 =>
    ldI h1 a5 0 ((4 * p1) + p2) (fun x6 =>
    j4 x6))))))
set_option maxRecDepth 100000 in
set_option maxHeartbeats 4000000 in
theorem mM_nodes (l : Launch) (h0 : Hp) (z0 : Nat) (a0 : Nat) (p1 : Int32) (p2 : Int32) (r : (Hp × Int32)) (hr : FM_nodes h0 a0 p1 p2 = some r) : vM False l yM_nodes (Cond.code yM_nodes prog_7_method_38_code 3 (some (.int)) :: gW) 2 [.ref a0, .int p1, .int p2] h0 z0 r.1 z0 (some (.int r.2)) 0 0 := by
  refine vM.of (by decide) rfl (Nat.le_of_ble_eq_true rfl) ?_
  intro p e s m args below meth c D dA C hin2
  refine (?_ : vO p l e (vR 2 0 0) s m args below meth c D dA (vA h0 z0) 3 False (fun r : (Hp × Int32) => MQ below (vQc False h0 z0 D dA r.1 z0 (some (.int r.2))) args s 0 0 (vAr False h0 z0)) 0 0 h0 z0 [(0, .ref a0), (1, .int p1), (2, .int p2)] 0 [] (FM_nodes h0 a0 p1 p2)) r hr
  obtain ⟨Q, hQ⟩ : ∃ Q : (Hp × Int32) → State → Prop, Q = (fun r : (Hp × Int32) => MQ below (vQc False h0 z0 D dA r.1 z0 (some (.int r.2))) args s 0 0 (vAr False h0 z0)) := ⟨_, rfl⟩
  rw [← hQ]
  unfold FM_nodes
  refine v_aload_n C dM_nodes_0 rfl 0 rfl ?_
  refine v_iconst (v := 0) C dM_nodes_1 (by decide) ?_
  refine v_put C v_cl5 (by decide) in_5 ty_5 ty_5_ok nm_5 rfl w_629 rfl (ty := .int) (by decide +kernel) rfl rfl dM_nodes_2 (fun h1 => ?_)
  refine v_iload_n C dM_nodes_5 rfl 1 rfl ?_
  refine v_iload_n C dM_nodes_6 rfl 2 rfl ?_
  refine v_bind fun r2 hr2 => ?_
  refine v_callS0 (N := 2) (As := [.int p1, .int p2]) (st := []) C (fun _ => trivial) (mM_isTree l h1 z0 p1 p2 r2 hr2) rfl w_810 w_53 (by decide +kernel) ⟨Nat.le_of_ble_eq_true rfl, Nat.le_of_ble_eq_true rfl⟩ rfl rfl (Nat.le_of_ble_eq_true rfl) ⟨Nat.zero_le _, Nat.zero_le _⟩ w_808 w_809 dM_nodes_7 ?_
  refine v_jn (fun (j : Int32 → Option (Hp × Int32)) => ∀ (y3 : Int32), vO p l e (vR 2 0 0) s m args below meth c D dA (vA h0 z0) 3 False Q 0 0 h1 z0 [] 28 [.int y3] (j y3)) ?_ (fun j4 Hj4 => ?_)
  · intro y3
    exact v_iret C dM_nodes_28 (by rw [hQ])
  · refine v_if_eq (tgt := 26) C dM_nodes_10 (by decide) ?_ ?_
    · refine v_bipush (v := (-2)) C dM_nodes_26 (by decide) ?_
      refine v_lv (lv' := []) [] rfl ?_
      exact Hj4 (-2)
    · refine v_aload_n C dM_nodes_13 rfl 0 rfl ?_
      refine v_getR C v_cl5 (by decide) in_5 rfl w_613 dM_nodes_14 (fun a5 => ?_)
      refine v_iconst (v := 4) C dM_nodes_17 (by decide) ?_
      refine v_iload_n C dM_nodes_18 rfl 1 rfl ?_
      refine v_imul C dM_nodes_19 ?_
      refine v_iload_n C dM_nodes_20 rfl 2 rfl ?_
      refine v_iadd C dM_nodes_21 ?_
      refine v_iald C rfl dM_nodes_22 (fun x6 => ?_)
      refine v_goto (tgt := 28) C dM_nodes_23 (by decide) ?_
      refine v_lv (lv' := []) [] rfl ?_
      exact Hj4 x6
theorem dM_node_0 : decode prog_7_method_39_code 0 = .ok (.aload_n 0, 1) := by decide +kernel
theorem dM_node_1 : decode prog_7_method_39_code 1 = .ok (.iconst 0, 1) := by decide +kernel
theorem dM_node_2 : decode prog_7_method_39_code 2 = .ok (.putfield 73, 3) := by decide +kernel
theorem dM_node_5 : decode prog_7_method_39_code 5 = .ok (.iload_n 1, 1) := by decide +kernel
theorem dM_node_6 : decode prog_7_method_39_code 6 = .ok (.iload_n 2, 1) := by decide +kernel
theorem dM_node_7 : decode prog_7_method_39_code 7 = .ok (.invokestatic 160, 3) := by decide +kernel
theorem dM_node_10 : decode prog_7_method_39_code 10 = .ok (.ifCond .eq 33, 3) := by decide +kernel
theorem dM_node_13 : decode prog_7_method_39_code 13 = .ok (.iload_n 3, 1) := by decide +kernel
theorem dM_node_14 : decode prog_7_method_39_code 14 = .ok (.iconst 0, 1) := by decide +kernel
theorem dM_node_15 : decode prog_7_method_39_code 15 = .ok (.aload_n 0, 1) := by decide +kernel
theorem dM_node_16 : decode prog_7_method_39_code 16 = .ok (.getfield 13, 3) := by decide +kernel
theorem dM_node_19 : decode prog_7_method_39_code 19 = .ok (.iconst 4, 1) := by decide +kernel
theorem dM_node_20 : decode prog_7_method_39_code 20 = .ok (.iload_n 1, 1) := by decide +kernel
theorem dM_node_21 : decode prog_7_method_39_code 21 = .ok (.imul, 1) := by decide +kernel
theorem dM_node_22 : decode prog_7_method_39_code 22 = .ok (.iload_n 2, 1) := by decide +kernel
theorem dM_node_23 : decode prog_7_method_39_code 23 = .ok (.iadd, 1) := by decide +kernel
theorem dM_node_24 : decode prog_7_method_39_code 24 = .ok (.iaload, 1) := by decide +kernel
theorem dM_node_25 : decode prog_7_method_39_code 25 = .ok (.iconst 1, 1) := by decide +kernel
theorem dM_node_26 : decode prog_7_method_39_code 26 = .ok (.isub, 1) := by decide +kernel
theorem dM_node_27 : decode prog_7_method_39_code 27 = .ok (.invokestatic 76, 3) := by decide +kernel
theorem dM_node_30 : decode prog_7_method_39_code 30 = .ok (.ifCond .eq 13, 3) := by decide +kernel
theorem dM_node_33 : decode prog_7_method_39_code 33 = .ok (.iload 4, 2) := by decide +kernel
theorem dM_node_35 : decode prog_7_method_39_code 35 = .ok (.iconst 0, 1) := by decide +kernel
theorem dM_node_36 : decode prog_7_method_39_code 36 = .ok (.iconst 3, 1) := by decide +kernel
theorem dM_node_37 : decode prog_7_method_39_code 37 = .ok (.invokestatic 76, 3) := by decide +kernel
theorem dM_node_40 : decode prog_7_method_39_code 40 = .ok (.ifCond .ne 10, 3) := by decide +kernel
theorem dM_node_43 : decode prog_7_method_39_code 43 = .ok (.aload_n 0, 1) := by decide +kernel
theorem dM_node_44 : decode prog_7_method_39_code 44 = .ok (.iconst 1, 1) := by decide +kernel
theorem dM_node_45 : decode prog_7_method_39_code 45 = .ok (.putfield 73, 3) := by decide +kernel
theorem dM_node_48 : decode prog_7_method_39_code 48 = .ok (.iconst 0, 1) := by decide +kernel
theorem dM_node_49 : decode prog_7_method_39_code 49 = .ok (.ireturn, 1) := by decide +kernel
theorem dM_node_50 : decode prog_7_method_39_code 50 = .ok (.iconst 4, 1) := by decide +kernel
theorem dM_node_51 : decode prog_7_method_39_code 51 = .ok (.iload_n 1, 1) := by decide +kernel
theorem dM_node_52 : decode prog_7_method_39_code 52 = .ok (.imul, 1) := by decide +kernel
theorem dM_node_53 : decode prog_7_method_39_code 53 = .ok (.iload_n 2, 1) := by decide +kernel
theorem dM_node_54 : decode prog_7_method_39_code 54 = .ok (.iadd, 1) := by decide +kernel
theorem dM_node_55 : decode prog_7_method_39_code 55 = .ok (.istore 5, 2) := by decide +kernel
theorem dM_node_57 : decode prog_7_method_39_code 57 = .ok (.aload_n 0, 1) := by decide +kernel
theorem dM_node_58 : decode prog_7_method_39_code 58 = .ok (.getfield 7, 3) := by decide +kernel
theorem dM_node_61 : decode prog_7_method_39_code 61 = .ok (.iload 5, 2) := by decide +kernel
theorem dM_node_63 : decode prog_7_method_39_code 63 = .ok (.iaload, 1) := by decide +kernel
theorem dM_node_64 : decode prog_7_method_39_code 64 = .ok (.ifCond .ne 58, 3) := by decide +kernel
theorem dM_node_67 : decode prog_7_method_39_code 67 = .ok (.iload 4, 2) := by decide +kernel
theorem dM_node_69 : decode prog_7_method_39_code 69 = .ok (.ifCond .ne 13, 3) := by decide +kernel
theorem dM_node_72 : decode prog_7_method_39_code 72 = .ok (.aload_n 0, 1) := by decide +kernel
theorem dM_node_73 : decode prog_7_method_39_code 73 = .ok (.iload 5, 2) := by decide +kernel
theorem dM_node_75 : decode prog_7_method_39_code 75 = .ok (.iload_n 3, 1) := by decide +kernel
theorem dM_node_76 : decode prog_7_method_39_code 76 = .ok (.invokevirtual 94, 3) := by decide +kernel
theorem dM_node_79 : decode prog_7_method_39_code 79 = .ok (.goto 42, 3) := by decide +kernel
theorem dM_node_82 : decode prog_7_method_39_code 82 = .ok (.iload 4, 2) := by decide +kernel
theorem dM_node_84 : decode prog_7_method_39_code 84 = .ok (.iconst 1, 1) := by decide +kernel
theorem dM_node_85 : decode prog_7_method_39_code 85 = .ok (.if_icmp .ne 13, 3) := by decide +kernel
theorem dM_node_88 : decode prog_7_method_39_code 88 = .ok (.aload_n 0, 1) := by decide +kernel
theorem dM_node_89 : decode prog_7_method_39_code 89 = .ok (.iload 5, 2) := by decide +kernel
theorem dM_node_91 : decode prog_7_method_39_code 91 = .ok (.iload_n 3, 1) := by decide +kernel
theorem dM_node_92 : decode prog_7_method_39_code 92 = .ok (.invokevirtual 101, 3) := by decide +kernel
theorem dM_node_95 : decode prog_7_method_39_code 95 = .ok (.goto 26, 3) := by decide +kernel
theorem dM_node_98 : decode prog_7_method_39_code 98 = .ok (.iload 4, 2) := by decide +kernel
theorem dM_node_100 : decode prog_7_method_39_code 100 = .ok (.iconst 2, 1) := by decide +kernel
theorem dM_node_101 : decode prog_7_method_39_code 101 = .ok (.if_icmp .ne 13, 3) := by decide +kernel
theorem dM_node_104 : decode prog_7_method_39_code 104 = .ok (.aload_n 0, 1) := by decide +kernel
theorem dM_node_105 : decode prog_7_method_39_code 105 = .ok (.iload 5, 2) := by decide +kernel
theorem dM_node_107 : decode prog_7_method_39_code 107 = .ok (.iload_n 3, 1) := by decide +kernel
theorem dM_node_108 : decode prog_7_method_39_code 108 = .ok (.invokevirtual 91, 3) := by decide +kernel
theorem dM_node_111 : decode prog_7_method_39_code 111 = .ok (.goto 10, 3) := by decide +kernel
theorem dM_node_114 : decode prog_7_method_39_code 114 = .ok (.aload_n 0, 1) := by decide +kernel
theorem dM_node_115 : decode prog_7_method_39_code 115 = .ok (.iload 5, 2) := by decide +kernel
theorem dM_node_117 : decode prog_7_method_39_code 117 = .ok (.iload_n 3, 1) := by decide +kernel
theorem dM_node_118 : decode prog_7_method_39_code 118 = .ok (.invokevirtual 153, 3) := by decide +kernel
theorem dM_node_121 : decode prog_7_method_39_code 121 = .ok (.ireturn, 1) := by decide +kernel
theorem dM_node_122 : decode prog_7_method_39_code 122 = .ok (.iload 4, 2) := by decide +kernel
theorem dM_node_124 : decode prog_7_method_39_code 124 = .ok (.ifCond .ne 7, 3) := by decide +kernel
theorem dM_node_127 : decode prog_7_method_39_code 127 = .ok (.iconst 0, 1) := by decide +kernel
theorem dM_node_128 : decode prog_7_method_39_code 128 = .ok (.goto 64, 3) := by decide +kernel
theorem dM_node_131 : decode prog_7_method_39_code 131 = .ok (.iload 4, 2) := by decide +kernel
theorem dM_node_133 : decode prog_7_method_39_code 133 = .ok (.iconst 1, 1) := by decide +kernel
theorem dM_node_134 : decode prog_7_method_39_code 134 = .ok (.if_icmp .ne 28, 3) := by decide +kernel
theorem dM_node_137 : decode prog_7_method_39_code 137 = .ok (.iload_n 3, 1) := by decide +kernel
theorem dM_node_138 : decode prog_7_method_39_code 138 = .ok (.aload_n 0, 1) := by decide +kernel
theorem dM_node_139 : decode prog_7_method_39_code 139 = .ok (.getfield 56, 3) := by decide +kernel
theorem dM_node_142 : decode prog_7_method_39_code 142 = .ok (.iconst 1, 1) := by decide +kernel
theorem dM_node_143 : decode prog_7_method_39_code 143 = .ok (.isub, 1) := by decide +kernel
theorem dM_node_144 : decode prog_7_method_39_code 144 = .ok (.if_icmp .ge 7, 3) := by decide +kernel
theorem dM_node_147 : decode prog_7_method_39_code 147 = .ok (.iconst (-1), 1) := by decide +kernel
theorem dM_node_148 : decode prog_7_method_39_code 148 = .ok (.goto 44, 3) := by decide +kernel
theorem dM_node_151 : decode prog_7_method_39_code 151 = .ok (.iload_n 3, 1) := by decide +kernel
theorem dM_node_152 : decode prog_7_method_39_code 152 = .ok (.aload_n 0, 1) := by decide +kernel
theorem dM_node_153 : decode prog_7_method_39_code 153 = .ok (.getfield 56, 3) := by decide +kernel
theorem dM_node_156 : decode prog_7_method_39_code 156 = .ok (.isub, 1) := by decide +kernel
theorem dM_node_157 : decode prog_7_method_39_code 157 = .ok (.iconst 1, 1) := by decide +kernel
theorem dM_node_158 : decode prog_7_method_39_code 158 = .ok (.iadd, 1) := by decide +kernel
theorem dM_node_159 : decode prog_7_method_39_code 159 = .ok (.goto 33, 3) := by decide +kernel
theorem dM_node_162 : decode prog_7_method_39_code 162 = .ok (.iload 4, 2) := by decide +kernel
theorem dM_node_164 : decode prog_7_method_39_code 164 = .ok (.iconst 2, 1) := by decide +kernel
theorem dM_node_165 : decode prog_7_method_39_code 165 = .ok (.if_icmp .ne 19, 3) := by decide +kernel
theorem dM_node_168 : decode prog_7_method_39_code 168 = .ok (.aload_n 0, 1) := by decide +kernel
theorem dM_node_169 : decode prog_7_method_39_code 169 = .ok (.getfield 35, 3) := by decide +kernel
theorem dM_node_172 : decode prog_7_method_39_code 172 = .ok (.sipush 129, 3) := by decide +kernel
theorem dM_node_175 : decode prog_7_method_39_code 175 = .ok (.iload 5, 2) := by decide +kernel
theorem dM_node_177 : decode prog_7_method_39_code 177 = .ok (.imul, 1) := by decide +kernel
theorem dM_node_178 : decode prog_7_method_39_code 178 = .ok (.iload_n 3, 1) := by decide +kernel
theorem dM_node_179 : decode prog_7_method_39_code 179 = .ok (.iadd, 1) := by decide +kernel
theorem dM_node_180 : decode prog_7_method_39_code 180 = .ok (.iaload, 1) := by decide +kernel
theorem dM_node_181 : decode prog_7_method_39_code 181 = .ok (.goto 11, 3) := by decide +kernel
theorem dM_node_184 : decode prog_7_method_39_code 184 = .ok (.aload_n 0, 1) := by decide +kernel
theorem dM_node_185 : decode prog_7_method_39_code 185 = .ok (.iload 5, 2) := by decide +kernel
theorem dM_node_187 : decode prog_7_method_39_code 187 = .ok (.iload_n 3, 1) := by decide +kernel
theorem dM_node_188 : decode prog_7_method_39_code 188 = .ok (.iconst 0, 1) := by decide +kernel
theorem dM_node_189 : decode prog_7_method_39_code 189 = .ok (.invokevirtual 104, 3) := by decide +kernel
theorem dM_node_192 : decode prog_7_method_39_code 192 = .ok (.ireturn, 1) := by decide +kernel
def FM_node (h0 : Hp) (a0 : Nat) (p1 : Int32) (p2 : Int32) (p3 : Int32) (p4 : Int32) : Option (Hp × Int32) :=
  pF h0 a0 5 20 (.int 0) (fun h1 =>
  (FM_isTree h1 p1 p2).bind (fun r2 =>
  jn (pF h1 a0 5 20 (.int 1) (fun h4 =>
  some (h4, 0)))
  (fun (j3 : Option (Hp × Int32)) =>
  if r2 = 0 then
    (j3)
  else
    (gR h1 a0 5 4 (fun a5 =>
    ldI h1 a5 0 ((4 * p1) + p2) (fun x6 =>
    (FM_isIn h1 p3 0 (x6 - 1)).bind (fun r7 =>
    if r7 = 0 then
      (j3)
    else
      ((FM_isIn h1 p4 0 3).bind (fun r8 =>
      if r8 = 0 then
        (j3)
      else
        (gR h1 a0 5 3 (fun a9 =>
        ldI h1 a9 0 ((4 * p1) + p2) (fun x10 =>
        if x10 = 0 then
          (jn (fun (y19 : Int32) =>
          some (h1, y19))
          (fun (j20 : Int32 → Option (Hp × Int32)) =>
          if p4 = 0 then
            (gd (isO h1 a0 5 = true) ((FM_countAt h1 a0 ((4 * p1) + p2) p3).bind (fun r28 =>
            j20 r28)))
          else
            (if p4 = 1 then
              (gd (isO h1 a0 5 = true) ((FM_signAt h1 a0 ((4 * p1) + p2) p3).bind (fun r26 =>
              j20 r26)))
            else
              (if p4 = 2 then
                (gd (isO h1 a0 5 = true) ((FM_above h1 a0 ((4 * p1) + p2) p3).bind (fun r24 =>
                j20 r24)))
              else
                (gd (isO h1 a0 5 = true) ((FM_below h1 a0 ((4 * p1) + p2) p3).bind (fun r22 =>
                j20 r22)))))))
        else
          (jn (fun (y11 : Int32) =>
          some (h1, y11))
          (fun (j12 : Int32 → Option (Hp × Int32)) =>
          if p4 = 0 then
            (j12 0)
          else
            (if p4 = 1 then
              (gI h1 a0 5 0 (fun x17 =>
              if (x17 - 1) ≤ p3 then
                (gI h1 a0 5 0 (fun x18 =>
                j12 ((p3 - x18) + 1)))
              else
                (j12 (-1))))
            else
              (if p4 = 2 then
                (gR h1 a0 5 11 (fun a15 =>
                ldI h1 a15 0 ((129 * ((4 * p1) + p2)) + p3) (fun x16 =>
                j12 x16)))
              else
                (gd (isO h1 a0 5 = true) ((FM_child h1 a0 ((4 * p1) + p2) p3 0).bind (fun r14 =>
                j12 r14)))))))))))))))))))
set_option maxRecDepth 100000 in
set_option maxHeartbeats 4000000 in
theorem mM_node (l : Launch) (h0 : Hp) (z0 : Nat) (a0 : Nat) (p1 : Int32) (p2 : Int32) (p3 : Int32) (p4 : Int32) (r : (Hp × Int32)) (hr : FM_node h0 a0 p1 p2 p3 p4 = some r) : vM False l yM_node (Cond.code yM_node prog_7_method_39_code 6 (some (.int)) :: gW) 2 [.ref a0, .int p1, .int p2, .int p3, .int p4] h0 z0 r.1 z0 (some (.int r.2)) 0 0 := by
  refine vM.of (by decide) rfl (Nat.le_of_ble_eq_true rfl) ?_
  intro p e s m args below meth c D dA C hin2
  refine (?_ : vO p l e (vR 2 0 0) s m args below meth c D dA (vA h0 z0) 6 False (fun r : (Hp × Int32) => MQ below (vQc False h0 z0 D dA r.1 z0 (some (.int r.2))) args s 0 0 (vAr False h0 z0)) 0 0 h0 z0 [(0, .ref a0), (1, .int p1), (2, .int p2), (3, .int p3), (4, .int p4)] 0 [] (FM_node h0 a0 p1 p2 p3 p4)) r hr
  obtain ⟨Q, hQ⟩ : ∃ Q : (Hp × Int32) → State → Prop, Q = (fun r : (Hp × Int32) => MQ below (vQc False h0 z0 D dA r.1 z0 (some (.int r.2))) args s 0 0 (vAr False h0 z0)) := ⟨_, rfl⟩
  rw [← hQ]
  unfold FM_node
  refine v_aload_n C dM_node_0 rfl 0 rfl ?_
  refine v_iconst (v := 0) C dM_node_1 (by decide) ?_
  refine v_put C v_cl5 (by decide) in_5 ty_5 ty_5_ok nm_5 rfl w_629 rfl (ty := .int) (by decide +kernel) rfl rfl dM_node_2 (fun h1 => ?_)
  refine v_iload_n C dM_node_5 rfl 1 rfl ?_
  refine v_iload_n C dM_node_6 rfl 2 rfl ?_
  refine v_bind fun r2 hr2 => ?_
  refine v_callS0 (N := 2) (As := [.int p1, .int p2]) (st := []) C (fun _ => trivial) (mM_isTree l h1 z0 p1 p2 r2 hr2) rfl w_810 w_53 (by decide +kernel) ⟨Nat.le_of_ble_eq_true rfl, Nat.le_of_ble_eq_true rfl⟩ rfl rfl (Nat.le_of_ble_eq_true rfl) ⟨Nat.zero_le _, Nat.zero_le _⟩ w_808 w_809 dM_node_7 ?_
  refine v_jn (fun (j : Option (Hp × Int32)) => vO p l e (vR 2 0 0) s m args below meth c D dA (vA h0 z0) 6 False Q 0 0 h1 z0 [(0, .ref a0)] 43 [] j) ?_ (fun j3 Hj3 => ?_)
  · refine v_aload_n C dM_node_43 rfl 0 rfl ?_
    refine v_iconst (v := 1) C dM_node_44 (by decide) ?_
    refine v_put C v_cl5 (by decide) in_5 ty_5 ty_5_ok nm_5 rfl w_629 rfl (ty := .int) (by decide +kernel) rfl rfl dM_node_45 (fun h4 => ?_)
    refine v_iconst (v := 0) C dM_node_48 (by decide) ?_
    exact v_iret C dM_node_49 (by rw [hQ])
  · refine v_if_eq (tgt := 43) C dM_node_10 (by decide) ?_ ?_
    · refine v_lv (lv' := [(0, .ref a0)]) [0] rfl ?_
      exact Hj3
    · refine v_iload_n C dM_node_13 rfl 3 rfl ?_
      refine v_iconst (v := 0) C dM_node_14 (by decide) ?_
      refine v_aload_n C dM_node_15 rfl 0 rfl ?_
      refine v_getR C v_cl5 (by decide) in_5 rfl w_613 dM_node_16 (fun a5 => ?_)
      refine v_iconst (v := 4) C dM_node_19 (by decide) ?_
      refine v_iload_n C dM_node_20 rfl 1 rfl ?_
      refine v_imul C dM_node_21 ?_
      refine v_iload_n C dM_node_22 rfl 2 rfl ?_
      refine v_iadd C dM_node_23 ?_
      refine v_iald C rfl dM_node_24 (fun x6 => ?_)
      refine v_iconst (v := 1) C dM_node_25 (by decide) ?_
      refine v_isub C dM_node_26 ?_
      refine v_bind fun r7 hr7 => ?_
      refine v_callS0 (N := 3) (As := [.int p3, .int 0, .int (x6 - 1)]) (st := []) C (fun _ => trivial) (mM_isIn l h1 z0 p3 0 (x6 - 1) r7 hr7) rfl w_698 w_53 (by decide +kernel) ⟨Nat.le_of_ble_eq_true rfl, Nat.le_of_ble_eq_true rfl⟩ rfl rfl (Nat.le_of_ble_eq_true rfl) ⟨Nat.zero_le _, Nat.zero_le _⟩ w_696 w_697 dM_node_27 ?_
      refine v_if_eq (tgt := 43) C dM_node_30 (by decide) ?_ ?_
      · refine v_lv (lv' := [(0, .ref a0)]) [0] rfl ?_
        exact Hj3
      · refine v_iload C dM_node_33 4 rfl ?_
        refine v_iconst (v := 0) C dM_node_35 (by decide) ?_
        refine v_iconst (v := 3) C dM_node_36 (by decide) ?_
        refine v_bind fun r8 hr8 => ?_
        refine v_callS0 (N := 3) (As := [.int p4, .int 0, .int 3]) (st := []) C (fun _ => trivial) (mM_isIn l h1 z0 p4 0 3 r8 hr8) rfl w_698 w_53 (by decide +kernel) ⟨Nat.le_of_ble_eq_true rfl, Nat.le_of_ble_eq_true rfl⟩ rfl rfl (Nat.le_of_ble_eq_true rfl) ⟨Nat.zero_le _, Nat.zero_le _⟩ w_696 w_697 dM_node_37 ?_
        refine v_if_ne (tgt := 50) C dM_node_40 (by decide) ?_ ?_
        · refine v_iconst (v := 4) C dM_node_50 (by decide) ?_
          refine v_iload_n C dM_node_51 rfl 1 rfl ?_
          refine v_imul C dM_node_52 ?_
          refine v_iload_n C dM_node_53 rfl 2 rfl ?_
          refine v_iadd C dM_node_54 ?_
          refine v_istore (lv' := [(0, .ref a0), (3, .int p3), (4, .int p4), (5, .int ((4 * p1) + p2))]) C dM_node_55 (by decide) [1, 4, 5, 0] rfl ?_
          refine v_aload_n C dM_node_57 rfl 0 rfl ?_
          refine v_getR C v_cl5 (by decide) in_5 rfl w_612 dM_node_58 (fun a9 => ?_)
          refine v_iload C dM_node_61 3 rfl ?_
          refine v_iald C rfl dM_node_63 (fun x10 => ?_)
          refine v_if_ne (tgt := 122) C dM_node_64 (by decide) ?_ ?_
          · refine v_iload C dM_node_122 2 rfl ?_
            refine v_jn (fun (j : Int32 → Option (Hp × Int32)) => ∀ (y11 : Int32), vO p l e (vR 2 0 0) s m args below meth c D dA (vA h0 z0) 6 False Q 0 0 h1 z0 [] 192 [.int y11] (j y11)) ?_ (fun j12 Hj12 => ?_)
            · intro y11
              exact v_iret C dM_node_192 (by rw [hQ])
            · refine v_if_ne (tgt := 131) C dM_node_124 (by decide) ?_ ?_
              · refine v_iload C dM_node_131 2 rfl ?_
                refine v_iconst (v := 1) C dM_node_133 (by decide) ?_
                refine v_icmp_ne (tgt := 162) C dM_node_134 (by decide) ?_ ?_
                · refine v_iload C dM_node_162 2 rfl ?_
                  refine v_iconst (v := 2) C dM_node_164 (by decide) ?_
                  refine v_icmp_ne (tgt := 184) C dM_node_165 (by decide) ?_ ?_
                  · refine v_aload_n C dM_node_184 rfl 0 rfl ?_
                    refine v_iload C dM_node_185 3 rfl ?_
                    refine v_iload_n C dM_node_187 rfl 1 rfl ?_
                    refine v_iconst (v := 0) C dM_node_188 (by decide) ?_
                    refine v_gd fun hO13 => ?_
                    refine v_bind fun r14 hr14 => ?_
                    refine v_callV0 (N := 3) (As := [.int ((4 * p1) + p2), .int p3, .int 0]) (st := []) C (fun _ => trivial) (mM_child l h1 z0 a0 ((4 * p1) + p2) p3 0 r14 hr14) rfl w_767 w_53 (by decide +kernel) ⟨Nat.le_of_ble_eq_true rfl, Nat.le_of_ble_eq_true rfl⟩ rfl rfl (Nat.le_of_ble_eq_true rfl) ⟨Nat.zero_le _, Nat.zero_le _⟩ w_764 w_766 w_39 v_cl5 rfl hO13 dM_node_189 ?_
                    refine v_lv (lv' := []) [] rfl ?_
                    exact Hj12 r14
                  · refine v_aload_n C dM_node_168 rfl 0 rfl ?_
                    refine v_getR C v_cl5 (by decide) in_5 rfl w_620 dM_node_169 (fun a15 => ?_)
                    refine v_sipush (v := 129) C dM_node_172 (by decide) ?_
                    refine v_iload C dM_node_175 3 rfl ?_
                    refine v_imul C dM_node_177 ?_
                    refine v_iload_n C dM_node_178 rfl 1 rfl ?_
                    refine v_iadd C dM_node_179 ?_
                    refine v_iald C rfl dM_node_180 (fun x16 => ?_)
                    refine v_goto (tgt := 192) C dM_node_181 (by decide) ?_
                    refine v_lv (lv' := []) [] rfl ?_
                    exact Hj12 x16
                · refine v_iload_n C dM_node_137 rfl 1 rfl ?_
                  refine v_aload_n C dM_node_138 rfl 0 rfl ?_
                  refine v_getI C v_cl5 (by decide) in_5 rfl w_609 dM_node_139 (fun x17 => ?_)
                  refine v_iconst (v := 1) C dM_node_142 (by decide) ?_
                  refine v_isub C dM_node_143 ?_
                  refine v_icmp_ge (tgt := 151) C dM_node_144 (by decide) ?_ ?_
                  · refine v_iload_n C dM_node_151 rfl 1 rfl ?_
                    refine v_aload_n C dM_node_152 rfl 0 rfl ?_
                    refine v_getI C v_cl5 (by decide) in_5 rfl w_609 dM_node_153 (fun x18 => ?_)
                    refine v_isub C dM_node_156 ?_
                    refine v_iconst (v := 1) C dM_node_157 (by decide) ?_
                    refine v_iadd C dM_node_158 ?_
                    refine v_goto (tgt := 192) C dM_node_159 (by decide) ?_
                    refine v_lv (lv' := []) [] rfl ?_
                    exact Hj12 ((p3 - x18) + 1)
                  · refine v_iconst (v := (-1)) C dM_node_147 (by decide) ?_
                    refine v_goto (tgt := 192) C dM_node_148 (by decide) ?_
                    refine v_lv (lv' := []) [] rfl ?_
                    exact Hj12 (-1)
              · refine v_iconst (v := 0) C dM_node_127 (by decide) ?_
                refine v_goto (tgt := 192) C dM_node_128 (by decide) ?_
                refine v_lv (lv' := []) [] rfl ?_
                exact Hj12 0
          · refine v_iload C dM_node_67 2 rfl ?_
            refine v_jn (fun (j : Int32 → Option (Hp × Int32)) => ∀ (y19 : Int32), vO p l e (vR 2 0 0) s m args below meth c D dA (vA h0 z0) 6 False Q 0 0 h1 z0 [] 121 [.int y19] (j y19)) ?_ (fun j20 Hj20 => ?_)
            · intro y19
              exact v_iret C dM_node_121 (by rw [hQ])
            · refine v_if_ne (tgt := 82) C dM_node_69 (by decide) ?_ ?_
              · refine v_iload C dM_node_82 2 rfl ?_
                refine v_iconst (v := 1) C dM_node_84 (by decide) ?_
                refine v_icmp_ne (tgt := 98) C dM_node_85 (by decide) ?_ ?_
                · refine v_iload C dM_node_98 2 rfl ?_
                  refine v_iconst (v := 2) C dM_node_100 (by decide) ?_
                  refine v_icmp_ne (tgt := 114) C dM_node_101 (by decide) ?_ ?_
                  · refine v_aload_n C dM_node_114 rfl 0 rfl ?_
                    refine v_iload C dM_node_115 3 rfl ?_
                    refine v_iload_n C dM_node_117 rfl 1 rfl ?_
                    refine v_gd fun hO21 => ?_
                    refine v_bind fun r22 hr22 => ?_
                    refine v_callV0 (N := 2) (As := [.int ((4 * p1) + p2), .int p3]) (st := []) C (fun _ => trivial) (mM_below l h1 z0 a0 ((4 * p1) + p2) p3 r22 hr22) rfl w_795 w_53 (by decide +kernel) ⟨Nat.le_of_ble_eq_true rfl, Nat.le_of_ble_eq_true rfl⟩ rfl rfl (Nat.le_of_ble_eq_true rfl) ⟨Nat.zero_le _, Nat.zero_le _⟩ w_792 w_794 w_42 v_cl5 rfl hO21 dM_node_118 ?_
                    refine v_lv (lv' := []) [] rfl ?_
                    exact Hj20 r22
                  · refine v_aload_n C dM_node_104 rfl 0 rfl ?_
                    refine v_iload C dM_node_105 3 rfl ?_
                    refine v_iload_n C dM_node_107 rfl 1 rfl ?_
                    refine v_gd fun hO23 => ?_
                    refine v_bind fun r24 hr24 => ?_
                    refine v_callV0 (N := 2) (As := [.int ((4 * p1) + p2), .int p3]) (st := []) C (fun _ => trivial) (mM_above l h1 z0 a0 ((4 * p1) + p2) p3 r24 hr24) rfl w_735 w_53 (by decide +kernel) ⟨Nat.le_of_ble_eq_true rfl, Nat.le_of_ble_eq_true rfl⟩ rfl rfl (Nat.le_of_ble_eq_true rfl) ⟨Nat.zero_le _, Nat.zero_le _⟩ w_732 w_734 w_31 v_cl5 rfl hO23 dM_node_108 ?_
                    refine v_goto (tgt := 121) C dM_node_111 (by decide) ?_
                    refine v_lv (lv' := []) [] rfl ?_
                    exact Hj20 r24
                · refine v_aload_n C dM_node_88 rfl 0 rfl ?_
                  refine v_iload C dM_node_89 3 rfl ?_
                  refine v_iload_n C dM_node_91 rfl 1 rfl ?_
                  refine v_gd fun hO25 => ?_
                  refine v_bind fun r26 hr26 => ?_
                  refine v_callV0 (N := 2) (As := [.int ((4 * p1) + p2), .int p3]) (st := []) C (fun _ => trivial) (mM_signAt l h1 z0 a0 ((4 * p1) + p2) p3 r26 hr26) rfl w_759 w_53 (by decide +kernel) ⟨Nat.le_of_ble_eq_true rfl, Nat.le_of_ble_eq_true rfl⟩ rfl rfl (Nat.le_of_ble_eq_true rfl) ⟨Nat.zero_le _, Nat.zero_le _⟩ w_756 w_758 w_37 v_cl5 rfl hO25 dM_node_92 ?_
                  refine v_goto (tgt := 121) C dM_node_95 (by decide) ?_
                  refine v_lv (lv' := []) [] rfl ?_
                  exact Hj20 r26
              · refine v_aload_n C dM_node_72 rfl 0 rfl ?_
                refine v_iload C dM_node_73 3 rfl ?_
                refine v_iload_n C dM_node_75 rfl 1 rfl ?_
                refine v_gd fun hO27 => ?_
                refine v_bind fun r28 hr28 => ?_
                refine v_callV0 (N := 2) (As := [.int ((4 * p1) + p2), .int p3]) (st := []) C (fun _ => trivial) (mM_countAt l h1 z0 a0 ((4 * p1) + p2) p3 r28 hr28) rfl w_751 w_53 (by decide +kernel) ⟨Nat.le_of_ble_eq_true rfl, Nat.le_of_ble_eq_true rfl⟩ rfl rfl (Nat.le_of_ble_eq_true rfl) ⟨Nat.zero_le _, Nat.zero_le _⟩ w_748 w_750 w_35 v_cl5 rfl hO27 dM_node_76 ?_
                refine v_goto (tgt := 121) C dM_node_79 (by decide) ?_
                refine v_lv (lv' := []) [] rfl ?_
                exact Hj20 r28
        · refine v_lv (lv' := [(0, .ref a0)]) [0] rfl ?_
          exact Hj3
theorem dM_isWellCounted_0 : decode prog_7_method_40_code 0 = .ok (.aload_n 0, 1) := by decide +kernel
theorem dM_isWellCounted_1 : decode prog_7_method_40_code 1 = .ok (.getfield 23, 3) := by decide +kernel
theorem dM_isWellCounted_4 : decode prog_7_method_40_code 4 = .ok (.sipush 129, 3) := by decide +kernel
theorem dM_isWellCounted_7 : decode prog_7_method_40_code 7 = .ok (.iload_n 1, 1) := by decide +kernel
theorem dM_isWellCounted_8 : decode prog_7_method_40_code 8 = .ok (.imul, 1) := by decide +kernel
theorem dM_isWellCounted_9 : decode prog_7_method_40_code 9 = .ok (.iaload, 1) := by decide +kernel
theorem dM_isWellCounted_10 : decode prog_7_method_40_code 10 = .ok (.ifCond .lt 7, 3) := by decide +kernel
theorem dM_isWellCounted_13 : decode prog_7_method_40_code 13 = .ok (.iconst 1, 1) := by decide +kernel
theorem dM_isWellCounted_14 : decode prog_7_method_40_code 14 = .ok (.goto 4, 3) := by decide +kernel
theorem dM_isWellCounted_17 : decode prog_7_method_40_code 17 = .ok (.iconst 0, 1) := by decide +kernel
theorem dM_isWellCounted_18 : decode prog_7_method_40_code 18 = .ok (.istore_n 2, 1) := by decide +kernel
theorem dM_isWellCounted_19 : decode prog_7_method_40_code 19 = .ok (.iconst 0, 1) := by decide +kernel
theorem dM_isWellCounted_20 : decode prog_7_method_40_code 20 = .ok (.istore_n 3, 1) := by decide +kernel
theorem dM_isWellCounted_21 : decode prog_7_method_40_code 21 = .ok (.iconst 0, 1) := by decide +kernel
theorem dM_isWellCounted_22 : decode prog_7_method_40_code 22 = .ok (.istore 4, 2) := by decide +kernel
theorem dM_isWellCounted_24 : decode prog_7_method_40_code 24 = .ok (.iload 4, 2) := by decide +kernel
theorem dM_isWellCounted_26 : decode prog_7_method_40_code 26 = .ok (.aload_n 0, 1) := by decide +kernel
theorem dM_isWellCounted_27 : decode prog_7_method_40_code 27 = .ok (.getfield 13, 3) := by decide +kernel
theorem dM_isWellCounted_30 : decode prog_7_method_40_code 30 = .ok (.iload_n 1, 1) := by decide +kernel
theorem dM_isWellCounted_31 : decode prog_7_method_40_code 31 = .ok (.iaload, 1) := by decide +kernel
theorem dM_isWellCounted_32 : decode prog_7_method_40_code 32 = .ok (.if_icmp .ge 252, 3) := by decide +kernel
theorem dM_isWellCounted_35 : decode prog_7_method_40_code 35 = .ok (.iload_n 2, 1) := by decide +kernel
theorem dM_isWellCounted_36 : decode prog_7_method_40_code 36 = .ok (.ifCond .eq 31, 3) := by decide +kernel
theorem dM_isWellCounted_39 : decode prog_7_method_40_code 39 = .ok (.iload 4, 2) := by decide +kernel
theorem dM_isWellCounted_41 : decode prog_7_method_40_code 41 = .ok (.ifCond .eq 22, 3) := by decide +kernel
theorem dM_isWellCounted_44 : decode prog_7_method_40_code 44 = .ok (.aload_n 0, 1) := by decide +kernel
theorem dM_isWellCounted_45 : decode prog_7_method_40_code 45 = .ok (.iload_n 1, 1) := by decide +kernel
theorem dM_isWellCounted_46 : decode prog_7_method_40_code 46 = .ok (.iload 4, 2) := by decide +kernel
theorem dM_isWellCounted_48 : decode prog_7_method_40_code 48 = .ok (.invokevirtual 94, 3) := by decide +kernel
theorem dM_isWellCounted_51 : decode prog_7_method_40_code 51 = .ok (.aload_n 0, 1) := by decide +kernel
theorem dM_isWellCounted_52 : decode prog_7_method_40_code 52 = .ok (.iload_n 1, 1) := by decide +kernel
theorem dM_isWellCounted_53 : decode prog_7_method_40_code 53 = .ok (.iload 4, 2) := by decide +kernel
theorem dM_isWellCounted_55 : decode prog_7_method_40_code 55 = .ok (.iconst 1, 1) := by decide +kernel
theorem dM_isWellCounted_56 : decode prog_7_method_40_code 56 = .ok (.isub, 1) := by decide +kernel
theorem dM_isWellCounted_57 : decode prog_7_method_40_code 57 = .ok (.invokevirtual 94, 3) := by decide +kernel
theorem dM_isWellCounted_60 : decode prog_7_method_40_code 60 = .ok (.if_icmp .gt 7, 3) := by decide +kernel
theorem dM_isWellCounted_63 : decode prog_7_method_40_code 63 = .ok (.iconst 1, 1) := by decide +kernel
theorem dM_isWellCounted_64 : decode prog_7_method_40_code 64 = .ok (.goto 4, 3) := by decide +kernel
theorem dM_isWellCounted_67 : decode prog_7_method_40_code 67 = .ok (.iconst 0, 1) := by decide +kernel
theorem dM_isWellCounted_68 : decode prog_7_method_40_code 68 = .ok (.istore_n 2, 1) := by decide +kernel
theorem dM_isWellCounted_69 : decode prog_7_method_40_code 69 = .ok (.aload_n 0, 1) := by decide +kernel
theorem dM_isWellCounted_70 : decode prog_7_method_40_code 70 = .ok (.iload_n 1, 1) := by decide +kernel
theorem dM_isWellCounted_71 : decode prog_7_method_40_code 71 = .ok (.iload 4, 2) := by decide +kernel
theorem dM_isWellCounted_73 : decode prog_7_method_40_code 73 = .ok (.invokevirtual 153, 3) := by decide +kernel
theorem dM_isWellCounted_76 : decode prog_7_method_40_code 76 = .ok (.istore 5, 2) := by decide +kernel
theorem dM_isWellCounted_78 : decode prog_7_method_40_code 78 = .ok (.iload_n 3, 1) := by decide +kernel
theorem dM_isWellCounted_79 : decode prog_7_method_40_code 79 = .ok (.iload 5, 2) := by decide +kernel
theorem dM_isWellCounted_81 : decode prog_7_method_40_code 81 = .ok (.iconst (-1), 1) := by decide +kernel
theorem dM_isWellCounted_82 : decode prog_7_method_40_code 82 = .ok (.if_icmp .ne 7, 3) := by decide +kernel
theorem dM_isWellCounted_85 : decode prog_7_method_40_code 85 = .ok (.iconst 1, 1) := by decide +kernel
theorem dM_isWellCounted_86 : decode prog_7_method_40_code 86 = .ok (.goto 4, 3) := by decide +kernel
theorem dM_isWellCounted_89 : decode prog_7_method_40_code 89 = .ok (.iconst 0, 1) := by decide +kernel
theorem dM_isWellCounted_90 : decode prog_7_method_40_code 90 = .ok (.iadd, 1) := by decide +kernel
theorem dM_isWellCounted_91 : decode prog_7_method_40_code 91 = .ok (.istore_n 3, 1) := by decide +kernel
theorem dM_isWellCounted_92 : decode prog_7_method_40_code 92 = .ok (.iload_n 2, 1) := by decide +kernel
theorem dM_isWellCounted_93 : decode prog_7_method_40_code 93 = .ok (.ifCond .eq 60, 3) := by decide +kernel
theorem dM_isWellCounted_96 : decode prog_7_method_40_code 96 = .ok (.iload 5, 2) := by decide +kernel
theorem dM_isWellCounted_98 : decode prog_7_method_40_code 98 = .ok (.iconst (-1), 1) := by decide +kernel
theorem dM_isWellCounted_99 : decode prog_7_method_40_code 99 = .ok (.if_icmp .ne 7, 3) := by decide +kernel
theorem dM_isWellCounted_102 : decode prog_7_method_40_code 102 = .ok (.iconst 1, 1) := by decide +kernel
theorem dM_isWellCounted_103 : decode prog_7_method_40_code 103 = .ok (.goto 4, 3) := by decide +kernel
theorem dM_isWellCounted_106 : decode prog_7_method_40_code 106 = .ok (.iconst 0, 1) := by decide +kernel
theorem dM_isWellCounted_107 : decode prog_7_method_40_code 107 = .ok (.aload_n 0, 1) := by decide +kernel
theorem dM_isWellCounted_108 : decode prog_7_method_40_code 108 = .ok (.iload_n 1, 1) := by decide +kernel
theorem dM_isWellCounted_109 : decode prog_7_method_40_code 109 = .ok (.iload 4, 2) := by decide +kernel
theorem dM_isWellCounted_111 : decode prog_7_method_40_code 111 = .ok (.invokevirtual 101, 3) := by decide +kernel
theorem dM_isWellCounted_114 : decode prog_7_method_40_code 114 = .ok (.iconst (-1), 1) := by decide +kernel
theorem dM_isWellCounted_115 : decode prog_7_method_40_code 115 = .ok (.if_icmp .eq 7, 3) := by decide +kernel
theorem dM_isWellCounted_118 : decode prog_7_method_40_code 118 = .ok (.iconst 1, 1) := by decide +kernel
theorem dM_isWellCounted_119 : decode prog_7_method_40_code 119 = .ok (.goto 4, 3) := by decide +kernel
theorem dM_isWellCounted_122 : decode prog_7_method_40_code 122 = .ok (.iconst 0, 1) := by decide +kernel
theorem dM_isWellCounted_123 : decode prog_7_method_40_code 123 = .ok (.if_icmp .ne 30, 3) := by decide +kernel
theorem dM_isWellCounted_126 : decode prog_7_method_40_code 126 = .ok (.aload_n 0, 1) := by decide +kernel
theorem dM_isWellCounted_127 : decode prog_7_method_40_code 127 = .ok (.iload_n 1, 1) := by decide +kernel
theorem dM_isWellCounted_128 : decode prog_7_method_40_code 128 = .ok (.aload_n 0, 1) := by decide +kernel
theorem dM_isWellCounted_129 : decode prog_7_method_40_code 129 = .ok (.getfield 23, 3) := by decide +kernel
theorem dM_isWellCounted_132 : decode prog_7_method_40_code 132 = .ok (.sipush 129, 3) := by decide +kernel
theorem dM_isWellCounted_135 : decode prog_7_method_40_code 135 = .ok (.iload_n 1, 1) := by decide +kernel
theorem dM_isWellCounted_136 : decode prog_7_method_40_code 136 = .ok (.imul, 1) := by decide +kernel
theorem dM_isWellCounted_137 : decode prog_7_method_40_code 137 = .ok (.iload 4, 2) := by decide +kernel
theorem dM_isWellCounted_139 : decode prog_7_method_40_code 139 = .ok (.iadd, 1) := by decide +kernel
theorem dM_isWellCounted_140 : decode prog_7_method_40_code 140 = .ok (.iaload, 1) := by decide +kernel
theorem dM_isWellCounted_141 : decode prog_7_method_40_code 141 = .ok (.invokevirtual 80, 3) := by decide +kernel
theorem dM_isWellCounted_144 : decode prog_7_method_40_code 144 = .ok (.iload 4, 2) := by decide +kernel
theorem dM_isWellCounted_146 : decode prog_7_method_40_code 146 = .ok (.if_icmp .ne 7, 3) := by decide +kernel
theorem dM_isWellCounted_149 : decode prog_7_method_40_code 149 = .ok (.iconst 1, 1) := by decide +kernel
theorem dM_isWellCounted_150 : decode prog_7_method_40_code 150 = .ok (.goto 4, 3) := by decide +kernel
theorem dM_isWellCounted_153 : decode prog_7_method_40_code 153 = .ok (.iconst 0, 1) := by decide +kernel
theorem dM_isWellCounted_154 : decode prog_7_method_40_code 154 = .ok (.istore_n 2, 1) := by decide +kernel
theorem dM_isWellCounted_155 : decode prog_7_method_40_code 155 = .ok (.iload 5, 2) := by decide +kernel
theorem dM_isWellCounted_157 : decode prog_7_method_40_code 157 = .ok (.iconst (-1), 1) := by decide +kernel
theorem dM_isWellCounted_158 : decode prog_7_method_40_code 158 = .ok (.if_icmp .eq 66, 3) := by decide +kernel
theorem dM_isWellCounted_161 : decode prog_7_method_40_code 161 = .ok (.iload_n 2, 1) := by decide +kernel
theorem dM_isWellCounted_162 : decode prog_7_method_40_code 162 = .ok (.ifCond .eq 60, 3) := by decide +kernel
theorem dM_isWellCounted_165 : decode prog_7_method_40_code 165 = .ok (.aload_n 0, 1) := by decide +kernel
theorem dM_isWellCounted_166 : decode prog_7_method_40_code 166 = .ok (.iload_n 1, 1) := by decide +kernel
theorem dM_isWellCounted_167 : decode prog_7_method_40_code 167 = .ok (.iload 4, 2) := by decide +kernel
theorem dM_isWellCounted_169 : decode prog_7_method_40_code 169 = .ok (.invokevirtual 94, 3) := by decide +kernel
theorem dM_isWellCounted_172 : decode prog_7_method_40_code 172 = .ok (.aload_n 0, 1) := by decide +kernel
theorem dM_isWellCounted_173 : decode prog_7_method_40_code 173 = .ok (.iload_n 1, 1) := by decide +kernel
theorem dM_isWellCounted_174 : decode prog_7_method_40_code 174 = .ok (.iload 5, 2) := by decide +kernel
theorem dM_isWellCounted_176 : decode prog_7_method_40_code 176 = .ok (.invokevirtual 94, 3) := by decide +kernel
theorem dM_isWellCounted_179 : decode prog_7_method_40_code 179 = .ok (.aload_n 0, 1) := by decide +kernel
theorem dM_isWellCounted_180 : decode prog_7_method_40_code 180 = .ok (.iload_n 1, 1) := by decide +kernel
theorem dM_isWellCounted_181 : decode prog_7_method_40_code 181 = .ok (.iload 5, 2) := by decide +kernel
theorem dM_isWellCounted_183 : decode prog_7_method_40_code 183 = .ok (.iconst 1, 1) := by decide +kernel
theorem dM_isWellCounted_184 : decode prog_7_method_40_code 184 = .ok (.iadd, 1) := by decide +kernel
theorem dM_isWellCounted_185 : decode prog_7_method_40_code 185 = .ok (.invokevirtual 94, 3) := by decide +kernel
theorem dM_isWellCounted_188 : decode prog_7_method_40_code 188 = .ok (.iadd, 1) := by decide +kernel
theorem dM_isWellCounted_189 : decode prog_7_method_40_code 189 = .ok (.if_icmp .ne 33, 3) := by decide +kernel
theorem dM_isWellCounted_192 : decode prog_7_method_40_code 192 = .ok (.aload_n 0, 1) := by decide +kernel
theorem dM_isWellCounted_193 : decode prog_7_method_40_code 193 = .ok (.iload_n 1, 1) := by decide +kernel
theorem dM_isWellCounted_194 : decode prog_7_method_40_code 194 = .ok (.iload 5, 2) := by decide +kernel
theorem dM_isWellCounted_196 : decode prog_7_method_40_code 196 = .ok (.invokevirtual 91, 3) := by decide +kernel
theorem dM_isWellCounted_199 : decode prog_7_method_40_code 199 = .ok (.iload 4, 2) := by decide +kernel
theorem dM_isWellCounted_201 : decode prog_7_method_40_code 201 = .ok (.if_icmp .ne 21, 3) := by decide +kernel
theorem dM_isWellCounted_204 : decode prog_7_method_40_code 204 = .ok (.aload_n 0, 1) := by decide +kernel
theorem dM_isWellCounted_205 : decode prog_7_method_40_code 205 = .ok (.iload_n 1, 1) := by decide +kernel
theorem dM_isWellCounted_206 : decode prog_7_method_40_code 206 = .ok (.iload 5, 2) := by decide +kernel
theorem dM_isWellCounted_208 : decode prog_7_method_40_code 208 = .ok (.iconst 1, 1) := by decide +kernel
theorem dM_isWellCounted_209 : decode prog_7_method_40_code 209 = .ok (.iadd, 1) := by decide +kernel
theorem dM_isWellCounted_210 : decode prog_7_method_40_code 210 = .ok (.invokevirtual 91, 3) := by decide +kernel
theorem dM_isWellCounted_213 : decode prog_7_method_40_code 213 = .ok (.iload 4, 2) := by decide +kernel
theorem dM_isWellCounted_215 : decode prog_7_method_40_code 215 = .ok (.if_icmp .ne 7, 3) := by decide +kernel
theorem dM_isWellCounted_218 : decode prog_7_method_40_code 218 = .ok (.iconst 1, 1) := by decide +kernel
theorem dM_isWellCounted_219 : decode prog_7_method_40_code 219 = .ok (.goto 4, 3) := by decide +kernel
theorem dM_isWellCounted_222 : decode prog_7_method_40_code 222 = .ok (.iconst 0, 1) := by decide +kernel
theorem dM_isWellCounted_223 : decode prog_7_method_40_code 223 = .ok (.istore_n 2, 1) := by decide +kernel
theorem dM_isWellCounted_224 : decode prog_7_method_40_code 224 = .ok (.iconst 0, 1) := by decide +kernel
theorem dM_isWellCounted_225 : decode prog_7_method_40_code 225 = .ok (.istore 6, 2) := by decide +kernel
theorem dM_isWellCounted_227 : decode prog_7_method_40_code 227 = .ok (.iload 6, 2) := by decide +kernel
theorem dM_isWellCounted_229 : decode prog_7_method_40_code 229 = .ok (.iload 4, 2) := by decide +kernel
theorem dM_isWellCounted_231 : decode prog_7_method_40_code 231 = .ok (.if_icmp .ge 47, 3) := by decide +kernel
theorem dM_isWellCounted_234 : decode prog_7_method_40_code 234 = .ok (.iload_n 2, 1) := by decide +kernel
theorem dM_isWellCounted_235 : decode prog_7_method_40_code 235 = .ok (.ifCond .eq 35, 3) := by decide +kernel
theorem dM_isWellCounted_238 : decode prog_7_method_40_code 238 = .ok (.aload_n 0, 1) := by decide +kernel
theorem dM_isWellCounted_239 : decode prog_7_method_40_code 239 = .ok (.iload_n 1, 1) := by decide +kernel
theorem dM_isWellCounted_240 : decode prog_7_method_40_code 240 = .ok (.iload 4, 2) := by decide +kernel
theorem dM_isWellCounted_242 : decode prog_7_method_40_code 242 = .ok (.invokevirtual 101, 3) := by decide +kernel
theorem dM_isWellCounted_245 : decode prog_7_method_40_code 245 = .ok (.iconst (-1), 1) := by decide +kernel
theorem dM_isWellCounted_246 : decode prog_7_method_40_code 246 = .ok (.if_icmp .eq 20, 3) := by decide +kernel
theorem dM_isWellCounted_249 : decode prog_7_method_40_code 249 = .ok (.aload_n 0, 1) := by decide +kernel
theorem dM_isWellCounted_250 : decode prog_7_method_40_code 250 = .ok (.iload_n 1, 1) := by decide +kernel
theorem dM_isWellCounted_251 : decode prog_7_method_40_code 251 = .ok (.iload 6, 2) := by decide +kernel
theorem dM_isWellCounted_253 : decode prog_7_method_40_code 253 = .ok (.invokevirtual 101, 3) := by decide +kernel
theorem dM_isWellCounted_256 : decode prog_7_method_40_code 256 = .ok (.aload_n 0, 1) := by decide +kernel
theorem dM_isWellCounted_257 : decode prog_7_method_40_code 257 = .ok (.iload_n 1, 1) := by decide +kernel
theorem dM_isWellCounted_258 : decode prog_7_method_40_code 258 = .ok (.iload 4, 2) := by decide +kernel
theorem dM_isWellCounted_260 : decode prog_7_method_40_code 260 = .ok (.invokevirtual 101, 3) := by decide +kernel
theorem dM_isWellCounted_263 : decode prog_7_method_40_code 263 = .ok (.if_icmp .eq 7, 3) := by decide +kernel
theorem dM_isWellCounted_266 : decode prog_7_method_40_code 266 = .ok (.iconst 1, 1) := by decide +kernel
theorem dM_isWellCounted_267 : decode prog_7_method_40_code 267 = .ok (.goto 4, 3) := by decide +kernel
theorem dM_isWellCounted_270 : decode prog_7_method_40_code 270 = .ok (.iconst 0, 1) := by decide +kernel
theorem dM_isWellCounted_271 : decode prog_7_method_40_code 271 = .ok (.istore_n 2, 1) := by decide +kernel
theorem dM_isWellCounted_272 : decode prog_7_method_40_code 272 = .ok (.iinc 6 1, 3) := by decide +kernel
theorem dM_isWellCounted_275 : decode prog_7_method_40_code 275 = .ok (.goto (-48), 3) := by decide +kernel
theorem dM_isWellCounted_278 : decode prog_7_method_40_code 278 = .ok (.iinc 4 1, 3) := by decide +kernel
theorem dM_isWellCounted_281 : decode prog_7_method_40_code 281 = .ok (.goto (-257), 3) := by decide +kernel
theorem dM_isWellCounted_284 : decode prog_7_method_40_code 284 = .ok (.iload_n 2, 1) := by decide +kernel
theorem dM_isWellCounted_285 : decode prog_7_method_40_code 285 = .ok (.ifCond .eq 21, 3) := by decide +kernel
theorem dM_isWellCounted_288 : decode prog_7_method_40_code 288 = .ok (.iconst 2, 1) := by decide +kernel
theorem dM_isWellCounted_289 : decode prog_7_method_40_code 289 = .ok (.iload_n 3, 1) := by decide +kernel
theorem dM_isWellCounted_290 : decode prog_7_method_40_code 290 = .ok (.imul, 1) := by decide +kernel
theorem dM_isWellCounted_291 : decode prog_7_method_40_code 291 = .ok (.iconst 1, 1) := by decide +kernel
theorem dM_isWellCounted_292 : decode prog_7_method_40_code 292 = .ok (.isub, 1) := by decide +kernel
theorem dM_isWellCounted_293 : decode prog_7_method_40_code 293 = .ok (.aload_n 0, 1) := by decide +kernel
theorem dM_isWellCounted_294 : decode prog_7_method_40_code 294 = .ok (.getfield 13, 3) := by decide +kernel
theorem dM_isWellCounted_297 : decode prog_7_method_40_code 297 = .ok (.iload_n 1, 1) := by decide +kernel
theorem dM_isWellCounted_298 : decode prog_7_method_40_code 298 = .ok (.iaload, 1) := by decide +kernel
theorem dM_isWellCounted_299 : decode prog_7_method_40_code 299 = .ok (.if_icmp .ne 7, 3) := by decide +kernel
theorem dM_isWellCounted_302 : decode prog_7_method_40_code 302 = .ok (.iconst 1, 1) := by decide +kernel
theorem dM_isWellCounted_303 : decode prog_7_method_40_code 303 = .ok (.goto 4, 3) := by decide +kernel
theorem dM_isWellCounted_306 : decode prog_7_method_40_code 306 = .ok (.iconst 0, 1) := by decide +kernel
theorem dM_isWellCounted_307 : decode prog_7_method_40_code 307 = .ok (.ireturn, 1) := by decide +kernel
def LM_isWellCounted_227 (h0 : Hp) (a0 : Nat) (p1 : Int32) (x15 : Int32) (K31 : Int32 → Option Int32) (rec34 : Int32 → Int32 → Option Int32) (x32 : Int32) (x33 : Int32) : Option Int32 :=
  if x15 ≤ x33 then
    (K31 x32)
  else
    (jn (fun (y35 : Int32) =>
    rec34 y35 (x33 + 1))
    (fun (j36 : Int32 → Option Int32) =>
    jn (j36 0)
    (fun (j37 : Option Int32) =>
    if x32 = 0 then
      (j37)
    else
      (gd (isO h0 a0 5 = true) ((FM_signAt h0 a0 p1 x15).bind (fun r39 =>
      jn (j36 1)
      (fun (j40 : Option Int32) =>
      if r39 = (-1) then
        (j40)
      else
        (gd (isO h0 a0 5 = true) ((FM_signAt h0 a0 p1 x33).bind (fun r42 =>
        gd (isO h0 a0 5 = true) ((FM_signAt h0 a0 p1 x15).bind (fun r44 =>
        if r42 = r44 then
          (j37)
        else
          (j40)))))))))))))
def LM_isWellCounted_24 (h0 : Hp) (a0 : Nat) (p1 : Int32) (K7 : Int32 → Int32 → Option Int32) (rec16 : Int32 → Int32 → Int32 → Option Int32) (x13 : Int32) (x14 : Int32) (x15 : Int32) : Option Int32 :=
  gR h0 a0 5 4 (fun a17 =>
  ldI h0 a17 0 p1 (fun x18 =>
  if x18 ≤ x15 then
    (K7 x13 x14)
  else
    (jn (fun (y19 : Int32) =>
    gd (isO h0 a0 5 = true) ((FM_below h0 a0 p1 x15).bind (fun r22 =>
    jn (fun (y23 : Int32) (y24 : Int32) =>
    jn (fun (y26 : Int32) =>
    jn (fun (x28 : Int32) =>
    jn (fun (x30 : Int32) =>
    rec16 x30 (y24 + y23) (x15 + 1))
    (fun (K31 : Int32 → Option Int32) =>
    lpG (fun _ _ => none) fu (LM_isWellCounted_227 h0 a0 p1 x15 K31) x28 0))
    (fun (j29 : Int32 → Option Int32) =>
    if r22 = (-1) then
      (j29 y26)
    else
      (jn (fun (y45 : Int32) =>
      j29 y45)
      (fun (j46 : Int32 → Option Int32) =>
      jn (j46 0)
      (fun (j47 : Option Int32) =>
      if y26 = 0 then
        (j47)
      else
        (gd (isO h0 a0 5 = true) ((FM_countAt h0 a0 p1 x15).bind (fun r49 =>
        gd (isO h0 a0 5 = true) ((FM_countAt h0 a0 p1 r22).bind (fun r51 =>
        gd (isO h0 a0 5 = true) ((FM_countAt h0 a0 p1 (r22 + 1)).bind (fun r53 =>
        if r49 = (r51 + r53) then
          (gd (isO h0 a0 5 = true) ((FM_above h0 a0 p1 r22).bind (fun r55 =>
          if r55 = x15 then
            (gd (isO h0 a0 5 = true) ((FM_above h0 a0 p1 (r22 + 1)).bind (fun r57 =>
            if r57 = x15 then
              (j46 1)
            else
              (j47))))
          else
            (j47))))
        else
          (j47)))))))))))))
    (fun (j27 : Int32 → Option Int32) =>
    jn (j27 0)
    (fun (j58 : Option Int32) =>
    if y19 = 0 then
      (j58)
    else
      (jn (fun (y59 : Int32) =>
      gd (isO h0 a0 5 = true) ((FM_signAt h0 a0 p1 x15).bind (fun r62 =>
      jn (fun (y63 : Int32) (y64 : Int32) =>
      if y64 = y63 then
        (gR h0 a0 5 7 (fun a66 =>
        ldI h0 a66 0 ((129 * p1) + x15) (fun x67 =>
        gd (isO h0 a0 5 = true) ((FM_placeOf h0 a0 p1 x67).bind (fun r69 =>
        if r69 = x15 then
          (j27 1)
        else
          (j58))))))
      else
        (j58))
      (fun (j65 : Int32 → Int32 → Option Int32) =>
      if r62 = (-1) then
        (j65 0 y59)
      else
        (j65 1 y59)))))
      (fun (j60 : Int32 → Option Int32) =>
      if r22 = (-1) then
        (j60 1)
      else
        (j60 0))))))
    (fun (j25 : Int32 → Int32 → Option Int32) =>
    if r22 = (-1) then
      (j25 1 x14)
    else
      (j25 0 x14)))))
    (fun (j20 : Int32 → Option Int32) =>
    jn (j20 0)
    (fun (j70 : Option Int32) =>
    if x13 = 0 then
      (j70)
    else
      (jn (j20 1)
      (fun (j71 : Option Int32) =>
      if x15 = 0 then
        (j71)
      else
        (gd (isO h0 a0 5 = true) ((FM_countAt h0 a0 p1 x15).bind (fun r73 =>
        gd (isO h0 a0 5 = true) ((FM_countAt h0 a0 p1 (x15 - 1)).bind (fun r75 =>
        if r75 < r73 then
          (j70)
        else
          (j71)))))))))))))
def FM_isWellCounted (h0 : Hp) (a0 : Nat) (p1 : Int32) : Option Int32 :=
  gR h0 a0 5 7 (fun a1 =>
  ldI h0 a1 0 (129 * p1) (fun x2 =>
  jn (fun (y3 : Int32) =>
  jn (fun (x5 : Int32) (x6 : Int32) =>
  jn (fun (y8 : Int32) =>
  gd (y8 = 0 ∨ y8 = 1) (some y8))
  (fun (j9 : Int32 → Option Int32) =>
  jn (j9 0)
  (fun (j10 : Option Int32) =>
  if x5 = 0 then
    (j10)
  else
    (gR h0 a0 5 4 (fun a11 =>
    ldI h0 a11 0 p1 (fun x12 =>
    if ((2 * x6) - 1) = x12 then
      (j9 1)
    else
      (j10)))))))
  (fun (K7 : Int32 → Int32 → Option Int32) =>
  lpG (fun _ _ _ => none) fu (LM_isWellCounted_24 h0 a0 p1 K7) y3 0 0))
  (fun (j4 : Int32 → Option Int32) =>
  if x2 < 0 then
    (j4 0)
  else
    (j4 1))))
set_option maxRecDepth 100000 in
set_option maxHeartbeats 4000000 in
theorem mM_isWellCounted (l : Launch) (h0 : Hp) (z0 : Nat) (a0 : Nat) (p1 : Int32) (r : Int32) (hr : FM_isWellCounted h0 a0 p1 = some r) : vM True l yM_isWellCounted (Cond.code yM_isWellCounted prog_7_method_40_code 7 (some (.boolean)) :: gW) 2 [.ref a0, .int p1] h0 z0 h0 z0 (some (.int r)) 0 0 := by
  refine vM.of (by decide) rfl (Nat.le_of_ble_eq_true rfl) ?_
  intro p e s m args below meth c D dA C hin2
  refine (?_ : vO p l e (vR 2 0 0) s m args below meth c D dA (vA h0 z0) 7 True (fun r : Int32 => MQ below (vQc True h0 z0 D dA h0 z0 (some (.int r))) args s 0 0 (vAr True h0 z0)) 0 0 h0 z0 [(0, .ref a0), (1, .int p1)] 0 [] (FM_isWellCounted h0 a0 p1)) r hr
  obtain ⟨Q, hQ⟩ : ∃ Q : Int32 → State → Prop, Q = (fun r : Int32 => MQ below (vQc True h0 z0 D dA h0 z0 (some (.int r))) args s 0 0 (vAr True h0 z0)) := ⟨_, rfl⟩
  rw [← hQ]
  unfold FM_isWellCounted
  refine v_aload_n C dM_isWellCounted_0 rfl 0 rfl ?_
  refine v_getR C v_cl5 (by decide) in_5 rfl w_616 dM_isWellCounted_1 (fun a1 => ?_)
  refine v_sipush (v := 129) C dM_isWellCounted_4 (by decide) ?_
  refine v_iload_n C dM_isWellCounted_7 rfl 1 rfl ?_
  refine v_imul C dM_isWellCounted_8 ?_
  refine v_iald C rfl dM_isWellCounted_9 (fun x2 => ?_)
  refine v_jn (fun (j : Int32 → Option Int32) => ∀ (y3 : Int32), vO p l e (vR 2 0 0) s m args below meth c D dA (vA h0 z0) 7 True Q 0 0 h0 z0 [(0, .ref a0), (1, .int p1)] 18 [.int y3] (j y3)) ?_ (fun j4 Hj4 => ?_)
  · intro y3
    refine v_istore_n (lv' := [(0, .ref a0), (1, .int p1), (2, .int y3)]) C dM_isWellCounted_18 rfl (by decide) [1, 2, 0] rfl ?_
    refine v_iconst (v := 0) C dM_isWellCounted_19 (by decide) ?_
    refine v_istore_n (lv' := [(0, .ref a0), (1, .int p1), (2, .int y3), (3, .int 0)]) C dM_isWellCounted_20 rfl (by decide) [1, 2, 3, 0] rfl ?_
    refine v_iconst (v := 0) C dM_isWellCounted_21 (by decide) ?_
    refine v_istore (lv' := [(0, .ref a0), (1, .int p1), (2, .int y3), (3, .int 0), (4, .int 0)]) C dM_isWellCounted_22 (by decide) [1, 2, 3, 4, 0] rfl ?_
    refine v_jn (fun (j : Int32 → Int32 → Option Int32) => ∀ (x5 : Int32), ∀ (x6 : Int32), vO p l e (vR 2 0 0) s m args below meth c D dA (vA h0 z0) 7 True Q 0 0 h0 z0 [(0, .ref a0), (1, .int p1), (2, .int x5), (3, .int x6)] 284 [] (j x5 x6)) ?_ (fun K7 HK7 => ?_)
    · intro x5 x6
      refine v_iload_n C dM_isWellCounted_284 rfl 2 rfl ?_
      refine v_jn (fun (j : Int32 → Option Int32) => ∀ (y8 : Int32), vO p l e (vR 2 0 0) s m args below meth c D dA (vA h0 z0) 7 True Q 0 0 h0 z0 [] 307 [.int y8] (j y8)) ?_ (fun j9 Hj9 => ?_)
      · intro y8
        exact v_zret C dM_isWellCounted_307 (by rw [hQ])
      · refine v_jn (fun (j : Option Int32) => vO p l e (vR 2 0 0) s m args below meth c D dA (vA h0 z0) 7 True Q 0 0 h0 z0 [] 306 [] j) ?_ (fun j10 Hj10 => ?_)
        · refine v_iconst (v := 0) C dM_isWellCounted_306 (by decide) ?_
          exact Hj9 0
        · refine v_if_eq (tgt := 306) C dM_isWellCounted_285 (by decide) ?_ ?_
          · refine v_lv (lv' := []) [] rfl ?_
            exact Hj10
          · refine v_iconst (v := 2) C dM_isWellCounted_288 (by decide) ?_
            refine v_iload_n C dM_isWellCounted_289 rfl 3 rfl ?_
            refine v_imul C dM_isWellCounted_290 ?_
            refine v_iconst (v := 1) C dM_isWellCounted_291 (by decide) ?_
            refine v_isub C dM_isWellCounted_292 ?_
            refine v_aload_n C dM_isWellCounted_293 rfl 0 rfl ?_
            refine v_getR C v_cl5 (by decide) in_5 rfl w_613 dM_isWellCounted_294 (fun a11 => ?_)
            refine v_iload_n C dM_isWellCounted_297 rfl 1 rfl ?_
            refine v_iald C rfl dM_isWellCounted_298 (fun x12 => ?_)
            refine v_icmp_ne (tgt := 306) C dM_isWellCounted_299 (by decide) ?_ ?_
            · refine v_lv (lv' := []) [] rfl ?_
              exact Hj10
            · refine v_iconst (v := 1) C dM_isWellCounted_302 (by decide) ?_
              refine v_goto (tgt := 307) C dM_isWellCounted_303 (by decide) ?_
              refine v_lv (lv' := []) [] rfl ?_
              exact Hj9 1
    · refine lpG_ind (bot := (fun _ _ _ => none)) (B := LM_isWellCounted_24 h0 a0 p1 K7) (fun (r : Int32 → Int32 → Int32 → Option Int32) => ∀ (x13 : Int32), ∀ (x14 : Int32), ∀ (x15 : Int32), vO p l e (vR 2 0 0) s m args below meth c D dA (vA h0 z0) 7 True Q 0 0 h0 z0 [(0, .ref a0), (1, .int p1), (2, .int x13), (3, .int x14), (4, .int x15)] 24 [] (r x13 x14 x15)) ?_ ?_ fu y3 0 0
      · intro x13 x14 x15
        exact v_none
      · intro rec16 Hrec16 x13 x14 x15
        unfold LM_isWellCounted_24
        refine v_iload C dM_isWellCounted_24 4 rfl ?_
        refine v_aload_n C dM_isWellCounted_26 rfl 0 rfl ?_
        refine v_getR C v_cl5 (by decide) in_5 rfl w_613 dM_isWellCounted_27 (fun a17 => ?_)
        refine v_iload_n C dM_isWellCounted_30 rfl 1 rfl ?_
        refine v_iald C rfl dM_isWellCounted_31 (fun x18 => ?_)
        refine v_icmp_ge (tgt := 284) C dM_isWellCounted_32 (by decide) ?_ ?_
        · refine v_lv (lv' := [(0, .ref a0), (1, .int p1), (2, .int x13), (3, .int x14)]) [0, 1, 2, 3] rfl ?_
          exact HK7 x13 x14
        · refine v_iload_n C dM_isWellCounted_35 rfl 2 rfl ?_
          refine v_jn (fun (j : Int32 → Option Int32) => ∀ (y19 : Int32), vO p l e (vR 2 0 0) s m args below meth c D dA (vA h0 z0) 7 True Q 0 0 h0 z0 [(0, .ref a0), (1, .int p1), (3, .int x14), (4, .int x15)] 68 [.int y19] (j y19)) ?_ (fun j20 Hj20 => ?_)
          · intro y19
            refine v_istore_n (lv' := [(0, .ref a0), (1, .int p1), (2, .int y19), (3, .int x14), (4, .int x15)]) C dM_isWellCounted_68 rfl (by decide) [1, 2, 0, 3, 4] rfl ?_
            refine v_aload_n C dM_isWellCounted_69 rfl 0 rfl ?_
            refine v_iload_n C dM_isWellCounted_70 rfl 1 rfl ?_
            refine v_iload C dM_isWellCounted_71 4 rfl ?_
            refine v_gd fun hO21 => ?_
            refine v_bind fun r22 hr22 => ?_
            refine v_callV0 (N := 2) (As := [.int p1, .int x15]) (st := []) C (fun _ => trivial) (mM_below l h0 z0 a0 p1 x15 r22 hr22) rfl w_795 w_53 (by decide +kernel) ⟨Nat.le_of_ble_eq_true rfl, Nat.le_of_ble_eq_true rfl⟩ rfl rfl (Nat.le_of_ble_eq_true rfl) ⟨Nat.zero_le _, Nat.zero_le _⟩ w_792 w_794 w_42 v_cl5 rfl hO21 dM_isWellCounted_73 ?_
            refine v_istore (lv' := [(0, .ref a0), (1, .int p1), (2, .int y19), (3, .int x14), (4, .int x15), (5, .int r22)]) C dM_isWellCounted_76 (by decide) [1, 2, 3, 4, 5, 0] rfl ?_
            refine v_iload_n C dM_isWellCounted_78 rfl 3 rfl ?_
            refine v_iload C dM_isWellCounted_79 5 rfl ?_
            refine v_iconst (v := (-1)) C dM_isWellCounted_81 (by decide) ?_
            refine v_jn (fun (j : Int32 → Int32 → Option Int32) => ∀ (y23 : Int32), ∀ (y24 : Int32), vO p l e (vR 2 0 0) s m args below meth c D dA (vA h0 z0) 7 True Q 0 0 h0 z0 [(0, .ref a0), (1, .int p1), (2, .int y19), (4, .int x15), (5, .int r22)] 90 [.int y23, .int y24] (j y23 y24)) ?_ (fun j25 Hj25 => ?_)
            · intro y23 y24
              refine v_iadd C dM_isWellCounted_90 ?_
              refine v_istore_n (lv' := [(0, .ref a0), (1, .int p1), (2, .int y19), (3, .int (y24 + y23)), (4, .int x15), (5, .int r22)]) C dM_isWellCounted_91 rfl (by decide) [1, 2, 3, 0, 4, 5] rfl ?_
              refine v_iload_n C dM_isWellCounted_92 rfl 2 rfl ?_
              refine v_jn (fun (j : Int32 → Option Int32) => ∀ (y26 : Int32), vO p l e (vR 2 0 0) s m args below meth c D dA (vA h0 z0) 7 True Q 0 0 h0 z0 [(0, .ref a0), (1, .int p1), (3, .int (y24 + y23)), (4, .int x15), (5, .int r22)] 154 [.int y26] (j y26)) ?_ (fun j27 Hj27 => ?_)
              · intro y26
                refine v_istore_n (lv' := [(0, .ref a0), (1, .int p1), (2, .int y26), (3, .int (y24 + y23)), (4, .int x15), (5, .int r22)]) C dM_isWellCounted_154 rfl (by decide) [1, 2, 0, 3, 4, 5] rfl ?_
                refine v_iload C dM_isWellCounted_155 5 rfl ?_
                refine v_iconst (v := (-1)) C dM_isWellCounted_157 (by decide) ?_
                refine v_jn (fun (j : Int32 → Option Int32) => ∀ (x28 : Int32), vO p l e (vR 2 0 0) s m args below meth c D dA (vA h0 z0) 7 True Q 0 0 h0 z0 [(0, .ref a0), (1, .int p1), (2, .int x28), (3, .int (y24 + y23)), (4, .int x15)] 224 [] (j x28)) ?_ (fun j29 Hj29 => ?_)
                · intro x28
                  refine v_iconst (v := 0) C dM_isWellCounted_224 (by decide) ?_
                  refine v_istore (lv' := [(0, .ref a0), (1, .int p1), (2, .int x28), (3, .int (y24 + y23)), (4, .int x15), (6, .int 0)]) C dM_isWellCounted_225 (by decide) [1, 2, 3, 4, 5, 0] rfl ?_
                  refine v_jn (fun (j : Int32 → Option Int32) => ∀ (x30 : Int32), vO p l e (vR 2 0 0) s m args below meth c D dA (vA h0 z0) 7 True Q 0 0 h0 z0 [(0, .ref a0), (1, .int p1), (2, .int x30), (3, .int (y24 + y23)), (4, .int x15)] 278 [] (j x30)) ?_ (fun K31 HK31 => ?_)
                  · intro x30
                    refine v_iinc (v := (x15 + 1)) (lv' := [(0, .ref a0), (1, .int p1), (2, .int x30), (3, .int (y24 + y23)), (4, .int (x15 + 1))]) C dM_isWellCounted_278 4 rfl rfl (by decide) [1, 2, 3, 4, 0] rfl ?_
                    refine v_goto (tgt := 24) C dM_isWellCounted_281 (by decide) ?_
                    exact Hrec16 x30 (y24 + y23) (x15 + 1)
                  · refine lpG_ind (bot := (fun _ _ => none)) (B := LM_isWellCounted_227 h0 a0 p1 x15 K31) (fun (r : Int32 → Int32 → Option Int32) => ∀ (x32 : Int32), ∀ (x33 : Int32), vO p l e (vR 2 0 0) s m args below meth c D dA (vA h0 z0) 7 True Q 0 0 h0 z0 [(0, .ref a0), (1, .int p1), (2, .int x32), (3, .int (y24 + y23)), (4, .int x15), (6, .int x33)] 227 [] (r x32 x33)) ?_ ?_ fu x28 0
                    · intro x32 x33
                      exact v_none
                    · intro rec34 Hrec34 x32 x33
                      unfold LM_isWellCounted_227
                      refine v_iload C dM_isWellCounted_227 5 rfl ?_
                      refine v_iload C dM_isWellCounted_229 4 rfl ?_
                      refine v_icmp_ge (tgt := 278) C dM_isWellCounted_231 (by decide) ?_ ?_
                      · refine v_lv (lv' := [(0, .ref a0), (1, .int p1), (2, .int x32), (3, .int (y24 + y23)), (4, .int x15)]) [0, 1, 2, 3, 4] rfl ?_
                        exact HK31 x32
                      · refine v_iload_n C dM_isWellCounted_234 rfl 2 rfl ?_
                        refine v_jn (fun (j : Int32 → Option Int32) => ∀ (y35 : Int32), vO p l e (vR 2 0 0) s m args below meth c D dA (vA h0 z0) 7 True Q 0 0 h0 z0 [(0, .ref a0), (1, .int p1), (3, .int (y24 + y23)), (4, .int x15), (6, .int x33)] 271 [.int y35] (j y35)) ?_ (fun j36 Hj36 => ?_)
                        · intro y35
                          refine v_istore_n (lv' := [(0, .ref a0), (1, .int p1), (2, .int y35), (3, .int (y24 + y23)), (4, .int x15), (6, .int x33)]) C dM_isWellCounted_271 rfl (by decide) [1, 2, 0, 3, 4, 5] rfl ?_
                          refine v_iinc (v := (x33 + 1)) (lv' := [(0, .ref a0), (1, .int p1), (2, .int y35), (3, .int (y24 + y23)), (4, .int x15), (6, .int (x33 + 1))]) C dM_isWellCounted_272 5 rfl rfl (by decide) [1, 2, 3, 4, 5, 0] rfl ?_
                          refine v_goto (tgt := 227) C dM_isWellCounted_275 (by decide) ?_
                          exact Hrec34 y35 (x33 + 1)
                        · refine v_jn (fun (j : Option Int32) => vO p l e (vR 2 0 0) s m args below meth c D dA (vA h0 z0) 7 True Q 0 0 h0 z0 [(0, .ref a0), (1, .int p1), (3, .int (y24 + y23)), (4, .int x15), (6, .int x33)] 270 [] j) ?_ (fun j37 Hj37 => ?_)
                          · refine v_iconst (v := 0) C dM_isWellCounted_270 (by decide) ?_
                            exact Hj36 0
                          · refine v_if_eq (tgt := 270) C dM_isWellCounted_235 (by decide) ?_ ?_
                            · refine v_lv (lv' := [(0, .ref a0), (1, .int p1), (3, .int (y24 + y23)), (4, .int x15), (6, .int x33)]) [0, 1, 3, 4, 5] rfl ?_
                              exact Hj37
                            · refine v_aload_n C dM_isWellCounted_238 rfl 0 rfl ?_
                              refine v_iload_n C dM_isWellCounted_239 rfl 1 rfl ?_
                              refine v_iload C dM_isWellCounted_240 4 rfl ?_
                              refine v_gd fun hO38 => ?_
                              refine v_bind fun r39 hr39 => ?_
                              refine v_callV0 (N := 2) (As := [.int p1, .int x15]) (st := []) C (fun _ => trivial) (mM_signAt l h0 z0 a0 p1 x15 r39 hr39) rfl w_759 w_53 (by decide +kernel) ⟨Nat.le_of_ble_eq_true rfl, Nat.le_of_ble_eq_true rfl⟩ rfl rfl (Nat.le_of_ble_eq_true rfl) ⟨Nat.zero_le _, Nat.zero_le _⟩ w_756 w_758 w_37 v_cl5 rfl hO38 dM_isWellCounted_242 ?_
                              refine v_iconst (v := (-1)) C dM_isWellCounted_245 (by decide) ?_
                              refine v_jn (fun (j : Option Int32) => vO p l e (vR 2 0 0) s m args below meth c D dA (vA h0 z0) 7 True Q 0 0 h0 z0 [(0, .ref a0), (1, .int p1), (3, .int (y24 + y23)), (4, .int x15), (6, .int x33)] 266 [] j) ?_ (fun j40 Hj40 => ?_)
                              · refine v_iconst (v := 1) C dM_isWellCounted_266 (by decide) ?_
                                refine v_goto (tgt := 271) C dM_isWellCounted_267 (by decide) ?_
                                exact Hj36 1
                              · refine v_icmp_eq (tgt := 266) C dM_isWellCounted_246 (by decide) ?_ ?_
                                · refine v_lv (lv' := [(0, .ref a0), (1, .int p1), (3, .int (y24 + y23)), (4, .int x15), (6, .int x33)]) [0, 1, 3, 4, 5] rfl ?_
                                  exact Hj40
                                · refine v_aload_n C dM_isWellCounted_249 rfl 0 rfl ?_
                                  refine v_iload_n C dM_isWellCounted_250 rfl 1 rfl ?_
                                  refine v_iload C dM_isWellCounted_251 5 rfl ?_
                                  refine v_gd fun hO41 => ?_
                                  refine v_bind fun r42 hr42 => ?_
                                  refine v_callV0 (N := 2) (As := [.int p1, .int x33]) (st := []) C (fun _ => trivial) (mM_signAt l h0 z0 a0 p1 x33 r42 hr42) rfl w_759 w_53 (by decide +kernel) ⟨Nat.le_of_ble_eq_true rfl, Nat.le_of_ble_eq_true rfl⟩ rfl rfl (Nat.le_of_ble_eq_true rfl) ⟨Nat.zero_le _, Nat.zero_le _⟩ w_756 w_758 w_37 v_cl5 rfl hO41 dM_isWellCounted_253 ?_
                                  refine v_aload_n C dM_isWellCounted_256 rfl 0 rfl ?_
                                  refine v_iload_n C dM_isWellCounted_257 rfl 1 rfl ?_
                                  refine v_iload C dM_isWellCounted_258 4 rfl ?_
                                  refine v_gd fun hO43 => ?_
                                  refine v_bind fun r44 hr44 => ?_
                                  refine v_callV0 (N := 2) (As := [.int p1, .int x15]) (st := [.int r42]) C (fun _ => trivial) (mM_signAt l h0 z0 a0 p1 x15 r44 hr44) rfl w_759 w_53 (by decide +kernel) ⟨Nat.le_of_ble_eq_true rfl, Nat.le_of_ble_eq_true rfl⟩ rfl rfl (Nat.le_of_ble_eq_true rfl) ⟨Nat.zero_le _, Nat.zero_le _⟩ w_756 w_758 w_37 v_cl5 rfl hO43 dM_isWellCounted_260 ?_
                                  refine v_icmp_eq (tgt := 270) C dM_isWellCounted_263 (by decide) ?_ ?_
                                  · refine v_lv (lv' := [(0, .ref a0), (1, .int p1), (3, .int (y24 + y23)), (4, .int x15), (6, .int x33)]) [0, 1, 3, 4, 5] rfl ?_
                                    exact Hj37
                                  · refine v_lv (lv' := [(0, .ref a0), (1, .int p1), (3, .int (y24 + y23)), (4, .int x15), (6, .int x33)]) [0, 1, 3, 4, 5] rfl ?_
                                    exact Hj40
                · refine v_icmp_eq (tgt := 224) C dM_isWellCounted_158 (by decide) ?_ ?_
                  · refine v_lv (lv' := [(0, .ref a0), (1, .int p1), (2, .int y26), (3, .int (y24 + y23)), (4, .int x15)]) [0, 1, 2, 3, 4] rfl ?_
                    exact Hj29 y26
                  · refine v_iload_n C dM_isWellCounted_161 rfl 2 rfl ?_
                    refine v_jn (fun (j : Int32 → Option Int32) => ∀ (y45 : Int32), vO p l e (vR 2 0 0) s m args below meth c D dA (vA h0 z0) 7 True Q 0 0 h0 z0 [(0, .ref a0), (1, .int p1), (3, .int (y24 + y23)), (4, .int x15)] 223 [.int y45] (j y45)) ?_ (fun j46 Hj46 => ?_)
                    · intro y45
                      refine v_istore_n (lv' := [(0, .ref a0), (1, .int p1), (2, .int y45), (3, .int (y24 + y23)), (4, .int x15)]) C dM_isWellCounted_223 rfl (by decide) [1, 2, 0, 3, 4] rfl ?_
                      exact Hj29 y45
                    · refine v_jn (fun (j : Option Int32) => vO p l e (vR 2 0 0) s m args below meth c D dA (vA h0 z0) 7 True Q 0 0 h0 z0 [(0, .ref a0), (1, .int p1), (3, .int (y24 + y23)), (4, .int x15)] 222 [] j) ?_ (fun j47 Hj47 => ?_)
                      · refine v_iconst (v := 0) C dM_isWellCounted_222 (by decide) ?_
                        exact Hj46 0
                      · refine v_if_eq (tgt := 222) C dM_isWellCounted_162 (by decide) ?_ ?_
                        · refine v_lv (lv' := [(0, .ref a0), (1, .int p1), (3, .int (y24 + y23)), (4, .int x15)]) [0, 1, 3, 4] rfl ?_
                          exact Hj47
                        · refine v_aload_n C dM_isWellCounted_165 rfl 0 rfl ?_
                          refine v_iload_n C dM_isWellCounted_166 rfl 1 rfl ?_
                          refine v_iload C dM_isWellCounted_167 4 rfl ?_
                          refine v_gd fun hO48 => ?_
                          refine v_bind fun r49 hr49 => ?_
                          refine v_callV0 (N := 2) (As := [.int p1, .int x15]) (st := []) C (fun _ => trivial) (mM_countAt l h0 z0 a0 p1 x15 r49 hr49) rfl w_751 w_53 (by decide +kernel) ⟨Nat.le_of_ble_eq_true rfl, Nat.le_of_ble_eq_true rfl⟩ rfl rfl (Nat.le_of_ble_eq_true rfl) ⟨Nat.zero_le _, Nat.zero_le _⟩ w_748 w_750 w_35 v_cl5 rfl hO48 dM_isWellCounted_169 ?_
                          refine v_aload_n C dM_isWellCounted_172 rfl 0 rfl ?_
                          refine v_iload_n C dM_isWellCounted_173 rfl 1 rfl ?_
                          refine v_iload C dM_isWellCounted_174 5 rfl ?_
                          refine v_gd fun hO50 => ?_
                          refine v_bind fun r51 hr51 => ?_
                          refine v_callV0 (N := 2) (As := [.int p1, .int r22]) (st := [.int r49]) C (fun _ => trivial) (mM_countAt l h0 z0 a0 p1 r22 r51 hr51) rfl w_751 w_53 (by decide +kernel) ⟨Nat.le_of_ble_eq_true rfl, Nat.le_of_ble_eq_true rfl⟩ rfl rfl (Nat.le_of_ble_eq_true rfl) ⟨Nat.zero_le _, Nat.zero_le _⟩ w_748 w_750 w_35 v_cl5 rfl hO50 dM_isWellCounted_176 ?_
                          refine v_aload_n C dM_isWellCounted_179 rfl 0 rfl ?_
                          refine v_iload_n C dM_isWellCounted_180 rfl 1 rfl ?_
                          refine v_iload C dM_isWellCounted_181 5 rfl ?_
                          refine v_iconst (v := 1) C dM_isWellCounted_183 (by decide) ?_
                          refine v_iadd C dM_isWellCounted_184 ?_
                          refine v_gd fun hO52 => ?_
                          refine v_bind fun r53 hr53 => ?_
                          refine v_callV0 (N := 2) (As := [.int p1, .int (r22 + 1)]) (st := [.int r51, .int r49]) C (fun _ => trivial) (mM_countAt l h0 z0 a0 p1 (r22 + 1) r53 hr53) rfl w_751 w_53 (by decide +kernel) ⟨Nat.le_of_ble_eq_true rfl, Nat.le_of_ble_eq_true rfl⟩ rfl rfl (Nat.le_of_ble_eq_true rfl) ⟨Nat.zero_le _, Nat.zero_le _⟩ w_748 w_750 w_35 v_cl5 rfl hO52 dM_isWellCounted_185 ?_
                          refine v_iadd C dM_isWellCounted_188 ?_
                          refine v_icmp_ne (tgt := 222) C dM_isWellCounted_189 (by decide) ?_ ?_
                          · refine v_lv (lv' := [(0, .ref a0), (1, .int p1), (3, .int (y24 + y23)), (4, .int x15)]) [0, 1, 3, 4] rfl ?_
                            exact Hj47
                          · refine v_aload_n C dM_isWellCounted_192 rfl 0 rfl ?_
                            refine v_iload_n C dM_isWellCounted_193 rfl 1 rfl ?_
                            refine v_iload C dM_isWellCounted_194 5 rfl ?_
                            refine v_gd fun hO54 => ?_
                            refine v_bind fun r55 hr55 => ?_
                            refine v_callV0 (N := 2) (As := [.int p1, .int r22]) (st := []) C (fun _ => trivial) (mM_above l h0 z0 a0 p1 r22 r55 hr55) rfl w_735 w_53 (by decide +kernel) ⟨Nat.le_of_ble_eq_true rfl, Nat.le_of_ble_eq_true rfl⟩ rfl rfl (Nat.le_of_ble_eq_true rfl) ⟨Nat.zero_le _, Nat.zero_le _⟩ w_732 w_734 w_31 v_cl5 rfl hO54 dM_isWellCounted_196 ?_
                            refine v_iload C dM_isWellCounted_199 4 rfl ?_
                            refine v_icmp_ne (tgt := 222) C dM_isWellCounted_201 (by decide) ?_ ?_
                            · refine v_lv (lv' := [(0, .ref a0), (1, .int p1), (3, .int (y24 + y23)), (4, .int x15)]) [0, 1, 3, 4] rfl ?_
                              exact Hj47
                            · refine v_aload_n C dM_isWellCounted_204 rfl 0 rfl ?_
                              refine v_iload_n C dM_isWellCounted_205 rfl 1 rfl ?_
                              refine v_iload C dM_isWellCounted_206 5 rfl ?_
                              refine v_iconst (v := 1) C dM_isWellCounted_208 (by decide) ?_
                              refine v_iadd C dM_isWellCounted_209 ?_
                              refine v_gd fun hO56 => ?_
                              refine v_bind fun r57 hr57 => ?_
                              refine v_callV0 (N := 2) (As := [.int p1, .int (r22 + 1)]) (st := []) C (fun _ => trivial) (mM_above l h0 z0 a0 p1 (r22 + 1) r57 hr57) rfl w_735 w_53 (by decide +kernel) ⟨Nat.le_of_ble_eq_true rfl, Nat.le_of_ble_eq_true rfl⟩ rfl rfl (Nat.le_of_ble_eq_true rfl) ⟨Nat.zero_le _, Nat.zero_le _⟩ w_732 w_734 w_31 v_cl5 rfl hO56 dM_isWellCounted_210 ?_
                              refine v_iload C dM_isWellCounted_213 4 rfl ?_
                              refine v_icmp_ne (tgt := 222) C dM_isWellCounted_215 (by decide) ?_ ?_
                              · refine v_lv (lv' := [(0, .ref a0), (1, .int p1), (3, .int (y24 + y23)), (4, .int x15)]) [0, 1, 3, 4] rfl ?_
                                exact Hj47
                              · refine v_iconst (v := 1) C dM_isWellCounted_218 (by decide) ?_
                                refine v_goto (tgt := 223) C dM_isWellCounted_219 (by decide) ?_
                                refine v_lv (lv' := [(0, .ref a0), (1, .int p1), (3, .int (y24 + y23)), (4, .int x15)]) [0, 1, 3, 4] rfl ?_
                                exact Hj46 1
              · refine v_jn (fun (j : Option Int32) => vO p l e (vR 2 0 0) s m args below meth c D dA (vA h0 z0) 7 True Q 0 0 h0 z0 [(0, .ref a0), (1, .int p1), (3, .int (y24 + y23)), (4, .int x15), (5, .int r22)] 153 [] j) ?_ (fun j58 Hj58 => ?_)
                · refine v_iconst (v := 0) C dM_isWellCounted_153 (by decide) ?_
                  exact Hj27 0
                · refine v_if_eq (tgt := 153) C dM_isWellCounted_93 (by decide) ?_ ?_
                  · refine v_lv (lv' := [(0, .ref a0), (1, .int p1), (3, .int (y24 + y23)), (4, .int x15), (5, .int r22)]) [0, 1, 3, 4, 5] rfl ?_
                    exact Hj58
                  · refine v_iload C dM_isWellCounted_96 5 rfl ?_
                    refine v_iconst (v := (-1)) C dM_isWellCounted_98 (by decide) ?_
                    refine v_jn (fun (j : Int32 → Option Int32) => ∀ (y59 : Int32), vO p l e (vR 2 0 0) s m args below meth c D dA (vA h0 z0) 7 True Q 0 0 h0 z0 [(0, .ref a0), (1, .int p1), (3, .int (y24 + y23)), (4, .int x15), (5, .int r22)] 107 [.int y59] (j y59)) ?_ (fun j60 Hj60 => ?_)
                    · intro y59
                      refine v_aload_n C dM_isWellCounted_107 rfl 0 rfl ?_
                      refine v_iload_n C dM_isWellCounted_108 rfl 1 rfl ?_
                      refine v_iload C dM_isWellCounted_109 3 rfl ?_
                      refine v_gd fun hO61 => ?_
                      refine v_bind fun r62 hr62 => ?_
                      refine v_callV0 (N := 2) (As := [.int p1, .int x15]) (st := [.int y59]) C (fun _ => trivial) (mM_signAt l h0 z0 a0 p1 x15 r62 hr62) rfl w_759 w_53 (by decide +kernel) ⟨Nat.le_of_ble_eq_true rfl, Nat.le_of_ble_eq_true rfl⟩ rfl rfl (Nat.le_of_ble_eq_true rfl) ⟨Nat.zero_le _, Nat.zero_le _⟩ w_756 w_758 w_37 v_cl5 rfl hO61 dM_isWellCounted_111 ?_
                      refine v_iconst (v := (-1)) C dM_isWellCounted_114 (by decide) ?_
                      refine v_jn (fun (j : Int32 → Int32 → Option Int32) => ∀ (y63 : Int32), ∀ (y64 : Int32), vO p l e (vR 2 0 0) s m args below meth c D dA (vA h0 z0) 7 True Q 0 0 h0 z0 [(0, .ref a0), (1, .int p1), (3, .int (y24 + y23)), (4, .int x15), (5, .int r22)] 123 [.int y63, .int y64] (j y63 y64)) ?_ (fun j65 Hj65 => ?_)
                      · intro y63 y64
                        refine v_icmp_ne (tgt := 153) C dM_isWellCounted_123 (by decide) ?_ ?_
                        · exact Hj58
                        · refine v_aload_n C dM_isWellCounted_126 rfl 0 rfl ?_
                          refine v_iload_n C dM_isWellCounted_127 rfl 1 rfl ?_
                          refine v_aload_n C dM_isWellCounted_128 rfl 0 rfl ?_
                          refine v_getR C v_cl5 (by decide) in_5 rfl w_616 dM_isWellCounted_129 (fun a66 => ?_)
                          refine v_sipush (v := 129) C dM_isWellCounted_132 (by decide) ?_
                          refine v_iload_n C dM_isWellCounted_135 rfl 1 rfl ?_
                          refine v_imul C dM_isWellCounted_136 ?_
                          refine v_iload C dM_isWellCounted_137 3 rfl ?_
                          refine v_iadd C dM_isWellCounted_139 ?_
                          refine v_iald C rfl dM_isWellCounted_140 (fun x67 => ?_)
                          refine v_gd fun hO68 => ?_
                          refine v_bind fun r69 hr69 => ?_
                          refine v_callV0 (N := 2) (As := [.int p1, .int x67]) (st := []) C (fun _ => trivial) (mM_placeOf l h0 z0 a0 p1 x67 r69 hr69) rfl w_727 w_53 (by decide +kernel) ⟨Nat.le_of_ble_eq_true rfl, Nat.le_of_ble_eq_true rfl⟩ rfl rfl (Nat.le_of_ble_eq_true rfl) ⟨Nat.zero_le _, Nat.zero_le _⟩ w_724 w_726 w_29 v_cl5 rfl hO68 dM_isWellCounted_141 ?_
                          refine v_iload C dM_isWellCounted_144 3 rfl ?_
                          refine v_icmp_ne (tgt := 153) C dM_isWellCounted_146 (by decide) ?_ ?_
                          · exact Hj58
                          · refine v_iconst (v := 1) C dM_isWellCounted_149 (by decide) ?_
                            refine v_goto (tgt := 154) C dM_isWellCounted_150 (by decide) ?_
                            exact Hj27 1
                      · refine v_icmp_eq (tgt := 122) C dM_isWellCounted_115 (by decide) ?_ ?_
                        · refine v_iconst (v := 0) C dM_isWellCounted_122 (by decide) ?_
                          exact Hj65 0 y59
                        · refine v_iconst (v := 1) C dM_isWellCounted_118 (by decide) ?_
                          refine v_goto (tgt := 123) C dM_isWellCounted_119 (by decide) ?_
                          exact Hj65 1 y59
                    · refine v_icmp_ne (tgt := 106) C dM_isWellCounted_99 (by decide) ?_ ?_
                      · refine v_iconst (v := 0) C dM_isWellCounted_106 (by decide) ?_
                        refine v_lv (lv' := [(0, .ref a0), (1, .int p1), (3, .int (y24 + y23)), (4, .int x15), (5, .int r22)]) [0, 1, 3, 4, 5] rfl ?_
                        exact Hj60 0
                      · refine v_iconst (v := 1) C dM_isWellCounted_102 (by decide) ?_
                        refine v_goto (tgt := 107) C dM_isWellCounted_103 (by decide) ?_
                        refine v_lv (lv' := [(0, .ref a0), (1, .int p1), (3, .int (y24 + y23)), (4, .int x15), (5, .int r22)]) [0, 1, 3, 4, 5] rfl ?_
                        exact Hj60 1
            · refine v_icmp_ne (tgt := 89) C dM_isWellCounted_82 (by decide) ?_ ?_
              · refine v_iconst (v := 0) C dM_isWellCounted_89 (by decide) ?_
                refine v_lv (lv' := [(0, .ref a0), (1, .int p1), (2, .int y19), (4, .int x15), (5, .int r22)]) [0, 1, 2, 4, 5] rfl ?_
                exact Hj25 0 x14
              · refine v_iconst (v := 1) C dM_isWellCounted_85 (by decide) ?_
                refine v_goto (tgt := 90) C dM_isWellCounted_86 (by decide) ?_
                refine v_lv (lv' := [(0, .ref a0), (1, .int p1), (2, .int y19), (4, .int x15), (5, .int r22)]) [0, 1, 2, 4, 5] rfl ?_
                exact Hj25 1 x14
          · refine v_jn (fun (j : Option Int32) => vO p l e (vR 2 0 0) s m args below meth c D dA (vA h0 z0) 7 True Q 0 0 h0 z0 [(0, .ref a0), (1, .int p1), (3, .int x14), (4, .int x15)] 67 [] j) ?_ (fun j70 Hj70 => ?_)
            · refine v_iconst (v := 0) C dM_isWellCounted_67 (by decide) ?_
              exact Hj20 0
            · refine v_if_eq (tgt := 67) C dM_isWellCounted_36 (by decide) ?_ ?_
              · refine v_lv (lv' := [(0, .ref a0), (1, .int p1), (3, .int x14), (4, .int x15)]) [0, 1, 3, 4] rfl ?_
                exact Hj70
              · refine v_iload C dM_isWellCounted_39 4 rfl ?_
                refine v_jn (fun (j : Option Int32) => vO p l e (vR 2 0 0) s m args below meth c D dA (vA h0 z0) 7 True Q 0 0 h0 z0 [(0, .ref a0), (1, .int p1), (3, .int x14), (4, .int x15)] 63 [] j) ?_ (fun j71 Hj71 => ?_)
                · refine v_iconst (v := 1) C dM_isWellCounted_63 (by decide) ?_
                  refine v_goto (tgt := 68) C dM_isWellCounted_64 (by decide) ?_
                  exact Hj20 1
                · refine v_if_eq (tgt := 63) C dM_isWellCounted_41 (by decide) ?_ ?_
                  · refine v_lv (lv' := [(0, .ref a0), (1, .int p1), (3, .int x14), (4, .int x15)]) [0, 1, 3, 4] rfl ?_
                    exact Hj71
                  · refine v_aload_n C dM_isWellCounted_44 rfl 0 rfl ?_
                    refine v_iload_n C dM_isWellCounted_45 rfl 1 rfl ?_
                    refine v_iload C dM_isWellCounted_46 4 rfl ?_
                    refine v_gd fun hO72 => ?_
                    refine v_bind fun r73 hr73 => ?_
                    refine v_callV0 (N := 2) (As := [.int p1, .int x15]) (st := []) C (fun _ => trivial) (mM_countAt l h0 z0 a0 p1 x15 r73 hr73) rfl w_751 w_53 (by decide +kernel) ⟨Nat.le_of_ble_eq_true rfl, Nat.le_of_ble_eq_true rfl⟩ rfl rfl (Nat.le_of_ble_eq_true rfl) ⟨Nat.zero_le _, Nat.zero_le _⟩ w_748 w_750 w_35 v_cl5 rfl hO72 dM_isWellCounted_48 ?_
                    refine v_aload_n C dM_isWellCounted_51 rfl 0 rfl ?_
                    refine v_iload_n C dM_isWellCounted_52 rfl 1 rfl ?_
                    refine v_iload C dM_isWellCounted_53 4 rfl ?_
                    refine v_iconst (v := 1) C dM_isWellCounted_55 (by decide) ?_
                    refine v_isub C dM_isWellCounted_56 ?_
                    refine v_gd fun hO74 => ?_
                    refine v_bind fun r75 hr75 => ?_
                    refine v_callV0 (N := 2) (As := [.int p1, .int (x15 - 1)]) (st := [.int r73]) C (fun _ => trivial) (mM_countAt l h0 z0 a0 p1 (x15 - 1) r75 hr75) rfl w_751 w_53 (by decide +kernel) ⟨Nat.le_of_ble_eq_true rfl, Nat.le_of_ble_eq_true rfl⟩ rfl rfl (Nat.le_of_ble_eq_true rfl) ⟨Nat.zero_le _, Nat.zero_le _⟩ w_748 w_750 w_35 v_cl5 rfl hO74 dM_isWellCounted_57 ?_
                    refine v_icmp_gt (tgt := 67) C dM_isWellCounted_60 (by decide) ?_ ?_
                    · refine v_lv (lv' := [(0, .ref a0), (1, .int p1), (3, .int x14), (4, .int x15)]) [0, 1, 3, 4] rfl ?_
                      exact Hj70
                    · refine v_lv (lv' := [(0, .ref a0), (1, .int p1), (3, .int x14), (4, .int x15)]) [0, 1, 3, 4] rfl ?_
                      exact Hj71
  · refine v_if_lt (tgt := 17) C dM_isWellCounted_10 (by decide) ?_ ?_
    · refine v_iconst (v := 0) C dM_isWellCounted_17 (by decide) ?_
      exact Hj4 0
    · refine v_iconst (v := 1) C dM_isWellCounted_13 (by decide) ?_
      refine v_goto (tgt := 18) C dM_isWellCounted_14 (by decide) ?_
      exact Hj4 1
theorem dM_isWellSplayed_0 : decode prog_7_method_41_code 0 = .ok (.aload_n 0, 1) := by decide +kernel
theorem dM_isWellSplayed_1 : decode prog_7_method_41_code 1 = .ok (.getfield 35, 3) := by decide +kernel
theorem dM_isWellSplayed_4 : decode prog_7_method_41_code 4 = .ok (.sipush 129, 3) := by decide +kernel
theorem dM_isWellSplayed_7 : decode prog_7_method_41_code 7 = .ok (.iload_n 1, 1) := by decide +kernel
theorem dM_isWellSplayed_8 : decode prog_7_method_41_code 8 = .ok (.imul, 1) := by decide +kernel
theorem dM_isWellSplayed_9 : decode prog_7_method_41_code 9 = .ok (.iaload, 1) := by decide +kernel
theorem dM_isWellSplayed_10 : decode prog_7_method_41_code 10 = .ok (.iconst (-1), 1) := by decide +kernel
theorem dM_isWellSplayed_11 : decode prog_7_method_41_code 11 = .ok (.if_icmp .ne 7, 3) := by decide +kernel
theorem dM_isWellSplayed_14 : decode prog_7_method_41_code 14 = .ok (.iconst 1, 1) := by decide +kernel
theorem dM_isWellSplayed_15 : decode prog_7_method_41_code 15 = .ok (.goto 4, 3) := by decide +kernel
theorem dM_isWellSplayed_18 : decode prog_7_method_41_code 18 = .ok (.iconst 0, 1) := by decide +kernel
theorem dM_isWellSplayed_19 : decode prog_7_method_41_code 19 = .ok (.istore_n 2, 1) := by decide +kernel
theorem dM_isWellSplayed_20 : decode prog_7_method_41_code 20 = .ok (.iconst 0, 1) := by decide +kernel
theorem dM_isWellSplayed_21 : decode prog_7_method_41_code 21 = .ok (.istore_n 3, 1) := by decide +kernel
theorem dM_isWellSplayed_22 : decode prog_7_method_41_code 22 = .ok (.iload_n 3, 1) := by decide +kernel
theorem dM_isWellSplayed_23 : decode prog_7_method_41_code 23 = .ok (.aload_n 0, 1) := by decide +kernel
theorem dM_isWellSplayed_24 : decode prog_7_method_41_code 24 = .ok (.getfield 13, 3) := by decide +kernel
theorem dM_isWellSplayed_27 : decode prog_7_method_41_code 27 = .ok (.iload_n 1, 1) := by decide +kernel
theorem dM_isWellSplayed_28 : decode prog_7_method_41_code 28 = .ok (.iaload, 1) := by decide +kernel
theorem dM_isWellSplayed_29 : decode prog_7_method_41_code 29 = .ok (.if_icmp .ge 147, 3) := by decide +kernel
theorem dM_isWellSplayed_32 : decode prog_7_method_41_code 32 = .ok (.aload_n 0, 1) := by decide +kernel
theorem dM_isWellSplayed_33 : decode prog_7_method_41_code 33 = .ok (.iload_n 1, 1) := by decide +kernel
theorem dM_isWellSplayed_34 : decode prog_7_method_41_code 34 = .ok (.iload_n 3, 1) := by decide +kernel
theorem dM_isWellSplayed_35 : decode prog_7_method_41_code 35 = .ok (.iconst 0, 1) := by decide +kernel
theorem dM_isWellSplayed_36 : decode prog_7_method_41_code 36 = .ok (.invokevirtual 104, 3) := by decide +kernel
theorem dM_isWellSplayed_39 : decode prog_7_method_41_code 39 = .ok (.iconst (-1), 1) := by decide +kernel
theorem dM_isWellSplayed_40 : decode prog_7_method_41_code 40 = .ok (.if_icmp .eq 7, 3) := by decide +kernel
theorem dM_isWellSplayed_43 : decode prog_7_method_41_code 43 = .ok (.iconst 1, 1) := by decide +kernel
theorem dM_isWellSplayed_44 : decode prog_7_method_41_code 44 = .ok (.goto 4, 3) := by decide +kernel
theorem dM_isWellSplayed_47 : decode prog_7_method_41_code 47 = .ok (.iconst 0, 1) := by decide +kernel
theorem dM_isWellSplayed_48 : decode prog_7_method_41_code 48 = .ok (.istore 4, 2) := by decide +kernel
theorem dM_isWellSplayed_50 : decode prog_7_method_41_code 50 = .ok (.aload_n 0, 1) := by decide +kernel
theorem dM_isWellSplayed_51 : decode prog_7_method_41_code 51 = .ok (.iload_n 1, 1) := by decide +kernel
theorem dM_isWellSplayed_52 : decode prog_7_method_41_code 52 = .ok (.iload_n 3, 1) := by decide +kernel
theorem dM_isWellSplayed_53 : decode prog_7_method_41_code 53 = .ok (.iconst 1, 1) := by decide +kernel
theorem dM_isWellSplayed_54 : decode prog_7_method_41_code 54 = .ok (.invokevirtual 104, 3) := by decide +kernel
theorem dM_isWellSplayed_57 : decode prog_7_method_41_code 57 = .ok (.iconst (-1), 1) := by decide +kernel
theorem dM_isWellSplayed_58 : decode prog_7_method_41_code 58 = .ok (.if_icmp .eq 7, 3) := by decide +kernel
theorem dM_isWellSplayed_61 : decode prog_7_method_41_code 61 = .ok (.iconst 1, 1) := by decide +kernel
theorem dM_isWellSplayed_62 : decode prog_7_method_41_code 62 = .ok (.goto 4, 3) := by decide +kernel
theorem dM_isWellSplayed_65 : decode prog_7_method_41_code 65 = .ok (.iconst 0, 1) := by decide +kernel
theorem dM_isWellSplayed_66 : decode prog_7_method_41_code 66 = .ok (.istore 5, 2) := by decide +kernel
theorem dM_isWellSplayed_68 : decode prog_7_method_41_code 68 = .ok (.iload_n 2, 1) := by decide +kernel
theorem dM_isWellSplayed_69 : decode prog_7_method_41_code 69 = .ok (.ifCond .eq 34, 3) := by decide +kernel
theorem dM_isWellSplayed_72 : decode prog_7_method_41_code 72 = .ok (.iload 4, 2) := by decide +kernel
theorem dM_isWellSplayed_74 : decode prog_7_method_41_code 74 = .ok (.iload_n 3, 1) := by decide +kernel
theorem dM_isWellSplayed_75 : decode prog_7_method_41_code 75 = .ok (.aload_n 0, 1) := by decide +kernel
theorem dM_isWellSplayed_76 : decode prog_7_method_41_code 76 = .ok (.getfield 56, 3) := by decide +kernel
theorem dM_isWellSplayed_79 : decode prog_7_method_41_code 79 = .ok (.iconst 1, 1) := by decide +kernel
theorem dM_isWellSplayed_80 : decode prog_7_method_41_code 80 = .ok (.isub, 1) := by decide +kernel
theorem dM_isWellSplayed_81 : decode prog_7_method_41_code 81 = .ok (.if_icmp .ge 7, 3) := by decide +kernel
theorem dM_isWellSplayed_84 : decode prog_7_method_41_code 84 = .ok (.iconst 1, 1) := by decide +kernel
theorem dM_isWellSplayed_85 : decode prog_7_method_41_code 85 = .ok (.goto 4, 3) := by decide +kernel
theorem dM_isWellSplayed_88 : decode prog_7_method_41_code 88 = .ok (.iconst 0, 1) := by decide +kernel
theorem dM_isWellSplayed_89 : decode prog_7_method_41_code 89 = .ok (.if_icmp .ne 14, 3) := by decide +kernel
theorem dM_isWellSplayed_92 : decode prog_7_method_41_code 92 = .ok (.iload 5, 2) := by decide +kernel
theorem dM_isWellSplayed_94 : decode prog_7_method_41_code 94 = .ok (.iload 4, 2) := by decide +kernel
theorem dM_isWellSplayed_96 : decode prog_7_method_41_code 96 = .ok (.if_icmp .ne 7, 3) := by decide +kernel
theorem dM_isWellSplayed_99 : decode prog_7_method_41_code 99 = .ok (.iconst 1, 1) := by decide +kernel
theorem dM_isWellSplayed_100 : decode prog_7_method_41_code 100 = .ok (.goto 4, 3) := by decide +kernel
theorem dM_isWellSplayed_103 : decode prog_7_method_41_code 103 = .ok (.iconst 0, 1) := by decide +kernel
theorem dM_isWellSplayed_104 : decode prog_7_method_41_code 104 = .ok (.istore_n 2, 1) := by decide +kernel
theorem dM_isWellSplayed_105 : decode prog_7_method_41_code 105 = .ok (.iconst 0, 1) := by decide +kernel
theorem dM_isWellSplayed_106 : decode prog_7_method_41_code 106 = .ok (.istore 6, 2) := by decide +kernel
theorem dM_isWellSplayed_108 : decode prog_7_method_41_code 108 = .ok (.iload_n 3, 1) := by decide +kernel
theorem dM_isWellSplayed_109 : decode prog_7_method_41_code 109 = .ok (.istore 7, 2) := by decide +kernel
theorem dM_isWellSplayed_111 : decode prog_7_method_41_code 111 = .ok (.iload 7, 2) := by decide +kernel
theorem dM_isWellSplayed_113 : decode prog_7_method_41_code 113 = .ok (.iconst (-1), 1) := by decide +kernel
theorem dM_isWellSplayed_114 : decode prog_7_method_41_code 114 = .ok (.if_icmp .eq 35, 3) := by decide +kernel
theorem dM_isWellSplayed_117 : decode prog_7_method_41_code 117 = .ok (.iload 6, 2) := by decide +kernel
theorem dM_isWellSplayed_119 : decode prog_7_method_41_code 119 = .ok (.aload_n 0, 1) := by decide +kernel
theorem dM_isWellSplayed_120 : decode prog_7_method_41_code 120 = .ok (.getfield 13, 3) := by decide +kernel
theorem dM_isWellSplayed_123 : decode prog_7_method_41_code 123 = .ok (.iload_n 1, 1) := by decide +kernel
theorem dM_isWellSplayed_124 : decode prog_7_method_41_code 124 = .ok (.iaload, 1) := by decide +kernel
theorem dM_isWellSplayed_125 : decode prog_7_method_41_code 125 = .ok (.if_icmp .gt 24, 3) := by decide +kernel
theorem dM_isWellSplayed_128 : decode prog_7_method_41_code 128 = .ok (.iinc 6 1, 3) := by decide +kernel
theorem dM_isWellSplayed_131 : decode prog_7_method_41_code 131 = .ok (.aload_n 0, 1) := by decide +kernel
theorem dM_isWellSplayed_132 : decode prog_7_method_41_code 132 = .ok (.getfield 35, 3) := by decide +kernel
theorem dM_isWellSplayed_135 : decode prog_7_method_41_code 135 = .ok (.sipush 129, 3) := by decide +kernel
theorem dM_isWellSplayed_138 : decode prog_7_method_41_code 138 = .ok (.iload_n 1, 1) := by decide +kernel
theorem dM_isWellSplayed_139 : decode prog_7_method_41_code 139 = .ok (.imul, 1) := by decide +kernel
theorem dM_isWellSplayed_140 : decode prog_7_method_41_code 140 = .ok (.iload 7, 2) := by decide +kernel
theorem dM_isWellSplayed_142 : decode prog_7_method_41_code 142 = .ok (.iadd, 1) := by decide +kernel
theorem dM_isWellSplayed_143 : decode prog_7_method_41_code 143 = .ok (.iaload, 1) := by decide +kernel
theorem dM_isWellSplayed_144 : decode prog_7_method_41_code 144 = .ok (.istore 7, 2) := by decide +kernel
theorem dM_isWellSplayed_146 : decode prog_7_method_41_code 146 = .ok (.goto (-35), 3) := by decide +kernel
theorem dM_isWellSplayed_149 : decode prog_7_method_41_code 149 = .ok (.iload_n 2, 1) := by decide +kernel
theorem dM_isWellSplayed_150 : decode prog_7_method_41_code 150 = .ok (.ifCond .eq 18, 3) := by decide +kernel
theorem dM_isWellSplayed_153 : decode prog_7_method_41_code 153 = .ok (.iload 6, 2) := by decide +kernel
theorem dM_isWellSplayed_155 : decode prog_7_method_41_code 155 = .ok (.aload_n 0, 1) := by decide +kernel
theorem dM_isWellSplayed_156 : decode prog_7_method_41_code 156 = .ok (.getfield 13, 3) := by decide +kernel
theorem dM_isWellSplayed_159 : decode prog_7_method_41_code 159 = .ok (.iload_n 1, 1) := by decide +kernel
theorem dM_isWellSplayed_160 : decode prog_7_method_41_code 160 = .ok (.iaload, 1) := by decide +kernel
theorem dM_isWellSplayed_161 : decode prog_7_method_41_code 161 = .ok (.if_icmp .gt 7, 3) := by decide +kernel
theorem dM_isWellSplayed_164 : decode prog_7_method_41_code 164 = .ok (.iconst 1, 1) := by decide +kernel
theorem dM_isWellSplayed_165 : decode prog_7_method_41_code 165 = .ok (.goto 4, 3) := by decide +kernel
theorem dM_isWellSplayed_168 : decode prog_7_method_41_code 168 = .ok (.iconst 0, 1) := by decide +kernel
theorem dM_isWellSplayed_169 : decode prog_7_method_41_code 169 = .ok (.istore_n 2, 1) := by decide +kernel
theorem dM_isWellSplayed_170 : decode prog_7_method_41_code 170 = .ok (.iinc 3 1, 3) := by decide +kernel
theorem dM_isWellSplayed_173 : decode prog_7_method_41_code 173 = .ok (.goto (-151), 3) := by decide +kernel
theorem dM_isWellSplayed_176 : decode prog_7_method_41_code 176 = .ok (.iload_n 2, 1) := by decide +kernel
theorem dM_isWellSplayed_177 : decode prog_7_method_41_code 177 = .ok (.ireturn, 1) := by decide +kernel
def LM_isWellSplayed_111 (h0 : Hp) (a0 : Nat) (p1 : Int32) (K23 : Int32 → Option Int32) (rec31 : Int32 → Int32 → Option Int32) (x29 : Int32) (x30 : Int32) : Option Int32 :=
  if x30 = (-1) then
    (K23 x29)
  else
    (gR h0 a0 5 4 (fun a32 =>
    ldI h0 a32 0 p1 (fun x33 =>
    if x33 < x29 then
      (K23 x29)
    else
      (gR h0 a0 5 11 (fun a34 =>
      ldI h0 a34 0 ((129 * p1) + x30) (fun x35 =>
      rec31 (x29 + 1) x35))))))
def LM_isWellSplayed_22 (h0 : Hp) (a0 : Nat) (p1 : Int32) (K6 : Int32 → Option Int32) (rec9 : Int32 → Int32 → Option Int32) (x7 : Int32) (x8 : Int32) : Option Int32 :=
  gR h0 a0 5 4 (fun a10 =>
  ldI h0 a10 0 p1 (fun x11 =>
  if x11 ≤ x8 then
    (K6 x7)
  else
    (gd (isO h0 a0 5 = true) ((FM_child h0 a0 p1 x8 0).bind (fun r13 =>
    jn (fun (y14 : Int32) =>
    gd (isO h0 a0 5 = true) ((FM_child h0 a0 p1 x8 1).bind (fun r17 =>
    jn (fun (y18 : Int32) =>
    jn (fun (y20 : Int32) =>
    jn (fun (x22 : Int32) =>
    jn (fun (y24 : Int32) =>
    rec9 y24 (x8 + 1))
    (fun (j25 : Int32 → Option Int32) =>
    jn (j25 0)
    (fun (j26 : Option Int32) =>
    if y20 = 0 then
      (j26)
    else
      (gR h0 a0 5 4 (fun a27 =>
      ldI h0 a27 0 p1 (fun x28 =>
      if x28 < x22 then
        (j26)
      else
        (j25 1)))))))
    (fun (K23 : Int32 → Option Int32) =>
    lpG (fun _ _ => none) fu (LM_isWellSplayed_111 h0 a0 p1 K23) 0 x8))
    (fun (j21 : Int32 → Option Int32) =>
    jn (j21 0)
    (fun (j36 : Option Int32) =>
    if x7 = 0 then
      (j36)
    else
      (gI h0 a0 5 0 (fun x37 =>
      jn (fun (y38 : Int32) (y39 : Int32) =>
      if y39 = y38 then
        (if y18 = y14 then
          (j21 1)
        else
          (j36))
      else
        (j36))
      (fun (j40 : Int32 → Int32 → Option Int32) =>
      if (x37 - 1) ≤ x8 then
        (j40 0 y14)
      else
        (j40 1 y14)))))))
    (fun (j19 : Int32 → Option Int32) =>
    if r17 = (-1) then
      (j19 0)
    else
      (j19 1)))))
    (fun (j15 : Int32 → Option Int32) =>
    if r13 = (-1) then
      (j15 0)
    else
      (j15 1)))))))
def FM_isWellSplayed (h0 : Hp) (a0 : Nat) (p1 : Int32) : Option Int32 :=
  gR h0 a0 5 11 (fun a1 =>
  ldI h0 a1 0 (129 * p1) (fun x2 =>
  jn (fun (y3 : Int32) =>
  jn (fun (x5 : Int32) =>
  gd (x5 = 0 ∨ x5 = 1) (some x5))
  (fun (K6 : Int32 → Option Int32) =>
  lpG (fun _ _ => none) fu (LM_isWellSplayed_22 h0 a0 p1 K6) y3 0))
  (fun (j4 : Int32 → Option Int32) =>
  if x2 = (-1) then
    (j4 1)
  else
    (j4 0))))
set_option maxRecDepth 100000 in
set_option maxHeartbeats 4000000 in
theorem mM_isWellSplayed (l : Launch) (h0 : Hp) (z0 : Nat) (a0 : Nat) (p1 : Int32) (r : Int32) (hr : FM_isWellSplayed h0 a0 p1 = some r) : vM True l yM_isWellSplayed (Cond.code yM_isWellSplayed prog_7_method_41_code 8 (some (.boolean)) :: gW) 1 [.ref a0, .int p1] h0 z0 h0 z0 (some (.int r)) 0 0 := by
  refine vM.of (by decide) rfl (Nat.le_of_ble_eq_true rfl) ?_
  intro p e s m args below meth c D dA C hin2
  refine (?_ : vO p l e (vR 1 0 0) s m args below meth c D dA (vA h0 z0) 8 True (fun r : Int32 => MQ below (vQc True h0 z0 D dA h0 z0 (some (.int r))) args s 0 0 (vAr True h0 z0)) 0 0 h0 z0 [(0, .ref a0), (1, .int p1)] 0 [] (FM_isWellSplayed h0 a0 p1)) r hr
  obtain ⟨Q, hQ⟩ : ∃ Q : Int32 → State → Prop, Q = (fun r : Int32 => MQ below (vQc True h0 z0 D dA h0 z0 (some (.int r))) args s 0 0 (vAr True h0 z0)) := ⟨_, rfl⟩
  rw [← hQ]
  unfold FM_isWellSplayed
  refine v_aload_n C dM_isWellSplayed_0 rfl 0 rfl ?_
  refine v_getR C v_cl5 (by decide) in_5 rfl w_620 dM_isWellSplayed_1 (fun a1 => ?_)
  refine v_sipush (v := 129) C dM_isWellSplayed_4 (by decide) ?_
  refine v_iload_n C dM_isWellSplayed_7 rfl 1 rfl ?_
  refine v_imul C dM_isWellSplayed_8 ?_
  refine v_iald C rfl dM_isWellSplayed_9 (fun x2 => ?_)
  refine v_iconst (v := (-1)) C dM_isWellSplayed_10 (by decide) ?_
  refine v_jn (fun (j : Int32 → Option Int32) => ∀ (y3 : Int32), vO p l e (vR 1 0 0) s m args below meth c D dA (vA h0 z0) 8 True Q 0 0 h0 z0 [(0, .ref a0), (1, .int p1)] 19 [.int y3] (j y3)) ?_ (fun j4 Hj4 => ?_)
  · intro y3
    refine v_istore_n (lv' := [(0, .ref a0), (1, .int p1), (2, .int y3)]) C dM_isWellSplayed_19 rfl (by decide) [1, 2, 0] rfl ?_
    refine v_iconst (v := 0) C dM_isWellSplayed_20 (by decide) ?_
    refine v_istore_n (lv' := [(0, .ref a0), (1, .int p1), (2, .int y3), (3, .int 0)]) C dM_isWellSplayed_21 rfl (by decide) [1, 2, 3, 0] rfl ?_
    refine v_jn (fun (j : Int32 → Option Int32) => ∀ (x5 : Int32), vO p l e (vR 1 0 0) s m args below meth c D dA (vA h0 z0) 8 True Q 0 0 h0 z0 [(2, .int x5)] 176 [] (j x5)) ?_ (fun K6 HK6 => ?_)
    · intro x5
      refine v_iload_n C dM_isWellSplayed_176 rfl 0 rfl ?_
      exact v_zret C dM_isWellSplayed_177 (by rw [hQ])
    · refine lpG_ind (bot := (fun _ _ => none)) (B := LM_isWellSplayed_22 h0 a0 p1 K6) (fun (r : Int32 → Int32 → Option Int32) => ∀ (x7 : Int32), ∀ (x8 : Int32), vO p l e (vR 1 0 0) s m args below meth c D dA (vA h0 z0) 8 True Q 0 0 h0 z0 [(0, .ref a0), (1, .int p1), (2, .int x7), (3, .int x8)] 22 [] (r x7 x8)) ?_ ?_ fu y3 0
      · intro x7 x8
        exact v_none
      · intro rec9 Hrec9 x7 x8
        unfold LM_isWellSplayed_22
        refine v_iload_n C dM_isWellSplayed_22 rfl 3 rfl ?_
        refine v_aload_n C dM_isWellSplayed_23 rfl 0 rfl ?_
        refine v_getR C v_cl5 (by decide) in_5 rfl w_613 dM_isWellSplayed_24 (fun a10 => ?_)
        refine v_iload_n C dM_isWellSplayed_27 rfl 1 rfl ?_
        refine v_iald C rfl dM_isWellSplayed_28 (fun x11 => ?_)
        refine v_icmp_ge (tgt := 176) C dM_isWellSplayed_29 (by decide) ?_ ?_
        · refine v_lv (lv' := [(2, .int x7)]) [2] rfl ?_
          exact HK6 x7
        · refine v_aload_n C dM_isWellSplayed_32 rfl 0 rfl ?_
          refine v_iload_n C dM_isWellSplayed_33 rfl 1 rfl ?_
          refine v_iload_n C dM_isWellSplayed_34 rfl 3 rfl ?_
          refine v_iconst (v := 0) C dM_isWellSplayed_35 (by decide) ?_
          refine v_gd fun hO12 => ?_
          refine v_bind fun r13 hr13 => ?_
          refine v_callV0 (N := 3) (As := [.int p1, .int x8, .int 0]) (st := []) C (fun _ => trivial) (mM_child l h0 z0 a0 p1 x8 0 r13 hr13) rfl w_767 w_53 (by decide +kernel) ⟨Nat.le_of_ble_eq_true rfl, Nat.le_of_ble_eq_true rfl⟩ rfl rfl (Nat.le_of_ble_eq_true rfl) ⟨Nat.zero_le _, Nat.zero_le _⟩ w_764 w_766 w_39 v_cl5 rfl hO12 dM_isWellSplayed_36 ?_
          refine v_iconst (v := (-1)) C dM_isWellSplayed_39 (by decide) ?_
          refine v_jn (fun (j : Int32 → Option Int32) => ∀ (y14 : Int32), vO p l e (vR 1 0 0) s m args below meth c D dA (vA h0 z0) 8 True Q 0 0 h0 z0 [(0, .ref a0), (1, .int p1), (2, .int x7), (3, .int x8)] 48 [.int y14] (j y14)) ?_ (fun j15 Hj15 => ?_)
          · intro y14
            refine v_istore (lv' := [(0, .ref a0), (1, .int p1), (2, .int x7), (3, .int x8), (4, .int y14)]) C dM_isWellSplayed_48 (by decide) [1, 2, 3, 4, 0] rfl ?_
            refine v_aload_n C dM_isWellSplayed_50 rfl 0 rfl ?_
            refine v_iload_n C dM_isWellSplayed_51 rfl 1 rfl ?_
            refine v_iload_n C dM_isWellSplayed_52 rfl 3 rfl ?_
            refine v_iconst (v := 1) C dM_isWellSplayed_53 (by decide) ?_
            refine v_gd fun hO16 => ?_
            refine v_bind fun r17 hr17 => ?_
            refine v_callV0 (N := 3) (As := [.int p1, .int x8, .int 1]) (st := []) C (fun _ => trivial) (mM_child l h0 z0 a0 p1 x8 1 r17 hr17) rfl w_767 w_53 (by decide +kernel) ⟨Nat.le_of_ble_eq_true rfl, Nat.le_of_ble_eq_true rfl⟩ rfl rfl (Nat.le_of_ble_eq_true rfl) ⟨Nat.zero_le _, Nat.zero_le _⟩ w_764 w_766 w_39 v_cl5 rfl hO16 dM_isWellSplayed_54 ?_
            refine v_iconst (v := (-1)) C dM_isWellSplayed_57 (by decide) ?_
            refine v_jn (fun (j : Int32 → Option Int32) => ∀ (y18 : Int32), vO p l e (vR 1 0 0) s m args below meth c D dA (vA h0 z0) 8 True Q 0 0 h0 z0 [(0, .ref a0), (1, .int p1), (2, .int x7), (3, .int x8), (4, .int y14)] 66 [.int y18] (j y18)) ?_ (fun j19 Hj19 => ?_)
            · intro y18
              refine v_istore (lv' := [(0, .ref a0), (1, .int p1), (2, .int x7), (3, .int x8), (4, .int y14), (5, .int y18)]) C dM_isWellSplayed_66 (by decide) [1, 2, 3, 4, 5, 0] rfl ?_
              refine v_iload_n C dM_isWellSplayed_68 rfl 2 rfl ?_
              refine v_jn (fun (j : Int32 → Option Int32) => ∀ (y20 : Int32), vO p l e (vR 1 0 0) s m args below meth c D dA (vA h0 z0) 8 True Q 0 0 h0 z0 [(0, .ref a0), (1, .int p1), (3, .int x8)] 104 [.int y20] (j y20)) ?_ (fun j21 Hj21 => ?_)
              · intro y20
                refine v_istore_n (lv' := [(0, .ref a0), (1, .int p1), (2, .int y20), (3, .int x8)]) C dM_isWellSplayed_104 rfl (by decide) [1, 2, 0, 3] rfl ?_
                refine v_iconst (v := 0) C dM_isWellSplayed_105 (by decide) ?_
                refine v_istore (lv' := [(0, .ref a0), (1, .int p1), (2, .int y20), (3, .int x8), (6, .int 0)]) C dM_isWellSplayed_106 (by decide) [1, 2, 3, 4, 0] rfl ?_
                refine v_iload_n C dM_isWellSplayed_108 rfl 3 rfl ?_
                refine v_istore (lv' := [(0, .ref a0), (1, .int p1), (2, .int y20), (3, .int x8), (6, .int 0), (7, .int x8)]) C dM_isWellSplayed_109 (by decide) [1, 2, 3, 4, 5, 0] rfl ?_
                refine v_jn (fun (j : Int32 → Option Int32) => ∀ (x22 : Int32), vO p l e (vR 1 0 0) s m args below meth c D dA (vA h0 z0) 8 True Q 0 0 h0 z0 [(0, .ref a0), (1, .int p1), (2, .int y20), (3, .int x8), (6, .int x22)] 149 [] (j x22)) ?_ (fun K23 HK23 => ?_)
                · intro x22
                  refine v_iload_n C dM_isWellSplayed_149 rfl 2 rfl ?_
                  refine v_jn (fun (j : Int32 → Option Int32) => ∀ (y24 : Int32), vO p l e (vR 1 0 0) s m args below meth c D dA (vA h0 z0) 8 True Q 0 0 h0 z0 [(0, .ref a0), (1, .int p1), (3, .int x8)] 169 [.int y24] (j y24)) ?_ (fun j25 Hj25 => ?_)
                  · intro y24
                    refine v_istore_n (lv' := [(0, .ref a0), (1, .int p1), (2, .int y24), (3, .int x8)]) C dM_isWellSplayed_169 rfl (by decide) [1, 2, 0, 3] rfl ?_
                    refine v_iinc (v := (x8 + 1)) (lv' := [(0, .ref a0), (1, .int p1), (2, .int y24), (3, .int (x8 + 1))]) C dM_isWellSplayed_170 3 rfl rfl (by decide) [1, 2, 3, 0] rfl ?_
                    refine v_goto (tgt := 22) C dM_isWellSplayed_173 (by decide) ?_
                    exact Hrec9 y24 (x8 + 1)
                  · refine v_jn (fun (j : Option Int32) => vO p l e (vR 1 0 0) s m args below meth c D dA (vA h0 z0) 8 True Q 0 0 h0 z0 [(0, .ref a0), (1, .int p1), (3, .int x8)] 168 [] j) ?_ (fun j26 Hj26 => ?_)
                    · refine v_iconst (v := 0) C dM_isWellSplayed_168 (by decide) ?_
                      exact Hj25 0
                    · refine v_if_eq (tgt := 168) C dM_isWellSplayed_150 (by decide) ?_ ?_
                      · refine v_lv (lv' := [(0, .ref a0), (1, .int p1), (3, .int x8)]) [0, 1, 3] rfl ?_
                        exact Hj26
                      · refine v_iload C dM_isWellSplayed_153 4 rfl ?_
                        refine v_aload_n C dM_isWellSplayed_155 rfl 0 rfl ?_
                        refine v_getR C v_cl5 (by decide) in_5 rfl w_613 dM_isWellSplayed_156 (fun a27 => ?_)
                        refine v_iload_n C dM_isWellSplayed_159 rfl 1 rfl ?_
                        refine v_iald C rfl dM_isWellSplayed_160 (fun x28 => ?_)
                        refine v_icmp_gt (tgt := 168) C dM_isWellSplayed_161 (by decide) ?_ ?_
                        · refine v_lv (lv' := [(0, .ref a0), (1, .int p1), (3, .int x8)]) [0, 1, 3] rfl ?_
                          exact Hj26
                        · refine v_iconst (v := 1) C dM_isWellSplayed_164 (by decide) ?_
                          refine v_goto (tgt := 169) C dM_isWellSplayed_165 (by decide) ?_
                          refine v_lv (lv' := [(0, .ref a0), (1, .int p1), (3, .int x8)]) [0, 1, 3] rfl ?_
                          exact Hj25 1
                · refine lpG_ind (bot := (fun _ _ => none)) (B := LM_isWellSplayed_111 h0 a0 p1 K23) (fun (r : Int32 → Int32 → Option Int32) => ∀ (x29 : Int32), ∀ (x30 : Int32), vO p l e (vR 1 0 0) s m args below meth c D dA (vA h0 z0) 8 True Q 0 0 h0 z0 [(0, .ref a0), (1, .int p1), (2, .int y20), (3, .int x8), (6, .int x29), (7, .int x30)] 111 [] (r x29 x30)) ?_ ?_ fu 0 x8
                  · intro x29 x30
                    exact v_none
                  · intro rec31 Hrec31 x29 x30
                    unfold LM_isWellSplayed_111
                    refine v_iload C dM_isWellSplayed_111 5 rfl ?_
                    refine v_iconst (v := (-1)) C dM_isWellSplayed_113 (by decide) ?_
                    refine v_icmp_eq (tgt := 149) C dM_isWellSplayed_114 (by decide) ?_ ?_
                    · refine v_lv (lv' := [(0, .ref a0), (1, .int p1), (2, .int y20), (3, .int x8), (6, .int x29)]) [0, 1, 2, 3, 4] rfl ?_
                      exact HK23 x29
                    · refine v_iload C dM_isWellSplayed_117 4 rfl ?_
                      refine v_aload_n C dM_isWellSplayed_119 rfl 0 rfl ?_
                      refine v_getR C v_cl5 (by decide) in_5 rfl w_613 dM_isWellSplayed_120 (fun a32 => ?_)
                      refine v_iload_n C dM_isWellSplayed_123 rfl 1 rfl ?_
                      refine v_iald C rfl dM_isWellSplayed_124 (fun x33 => ?_)
                      refine v_icmp_gt (tgt := 149) C dM_isWellSplayed_125 (by decide) ?_ ?_
                      · refine v_lv (lv' := [(0, .ref a0), (1, .int p1), (2, .int y20), (3, .int x8), (6, .int x29)]) [0, 1, 2, 3, 4] rfl ?_
                        exact HK23 x29
                      · refine v_iinc (v := (x29 + 1)) (lv' := [(0, .ref a0), (1, .int p1), (2, .int y20), (3, .int x8), (6, .int (x29 + 1)), (7, .int x30)]) C dM_isWellSplayed_128 4 rfl rfl (by decide) [1, 2, 3, 4, 0, 5] rfl ?_
                        refine v_aload_n C dM_isWellSplayed_131 rfl 0 rfl ?_
                        refine v_getR C v_cl5 (by decide) in_5 rfl w_620 dM_isWellSplayed_132 (fun a34 => ?_)
                        refine v_sipush (v := 129) C dM_isWellSplayed_135 (by decide) ?_
                        refine v_iload_n C dM_isWellSplayed_138 rfl 1 rfl ?_
                        refine v_imul C dM_isWellSplayed_139 ?_
                        refine v_iload C dM_isWellSplayed_140 5 rfl ?_
                        refine v_iadd C dM_isWellSplayed_142 ?_
                        refine v_iald C rfl dM_isWellSplayed_143 (fun x35 => ?_)
                        refine v_istore (lv' := [(0, .ref a0), (1, .int p1), (2, .int y20), (3, .int x8), (6, .int (x29 + 1)), (7, .int x35)]) C dM_isWellSplayed_144 (by decide) [1, 2, 3, 4, 5, 0] rfl ?_
                        refine v_goto (tgt := 111) C dM_isWellSplayed_146 (by decide) ?_
                        exact Hrec31 (x29 + 1) x35
              · refine v_jn (fun (j : Option Int32) => vO p l e (vR 1 0 0) s m args below meth c D dA (vA h0 z0) 8 True Q 0 0 h0 z0 [(0, .ref a0), (1, .int p1), (3, .int x8)] 103 [] j) ?_ (fun j36 Hj36 => ?_)
                · refine v_iconst (v := 0) C dM_isWellSplayed_103 (by decide) ?_
                  exact Hj21 0
                · refine v_if_eq (tgt := 103) C dM_isWellSplayed_69 (by decide) ?_ ?_
                  · refine v_lv (lv' := [(0, .ref a0), (1, .int p1), (3, .int x8)]) [0, 1, 3] rfl ?_
                    exact Hj36
                  · refine v_iload C dM_isWellSplayed_72 4 rfl ?_
                    refine v_iload_n C dM_isWellSplayed_74 rfl 3 rfl ?_
                    refine v_aload_n C dM_isWellSplayed_75 rfl 0 rfl ?_
                    refine v_getI C v_cl5 (by decide) in_5 rfl w_609 dM_isWellSplayed_76 (fun x37 => ?_)
                    refine v_iconst (v := 1) C dM_isWellSplayed_79 (by decide) ?_
                    refine v_isub C dM_isWellSplayed_80 ?_
                    refine v_jn (fun (j : Int32 → Int32 → Option Int32) => ∀ (y38 : Int32), ∀ (y39 : Int32), vO p l e (vR 1 0 0) s m args below meth c D dA (vA h0 z0) 8 True Q 0 0 h0 z0 [(0, .ref a0), (1, .int p1), (3, .int x8), (4, .int y14), (5, .int y18)] 89 [.int y38, .int y39] (j y38 y39)) ?_ (fun j40 Hj40 => ?_)
                    · intro y38 y39
                      refine v_icmp_ne (tgt := 103) C dM_isWellSplayed_89 (by decide) ?_ ?_
                      · refine v_lv (lv' := [(0, .ref a0), (1, .int p1), (3, .int x8)]) [0, 1, 2] rfl ?_
                        exact Hj36
                      · refine v_iload C dM_isWellSplayed_92 4 rfl ?_
                        refine v_iload C dM_isWellSplayed_94 3 rfl ?_
                        refine v_icmp_ne (tgt := 103) C dM_isWellSplayed_96 (by decide) ?_ ?_
                        · refine v_lv (lv' := [(0, .ref a0), (1, .int p1), (3, .int x8)]) [0, 1, 2] rfl ?_
                          exact Hj36
                        · refine v_iconst (v := 1) C dM_isWellSplayed_99 (by decide) ?_
                          refine v_goto (tgt := 104) C dM_isWellSplayed_100 (by decide) ?_
                          refine v_lv (lv' := [(0, .ref a0), (1, .int p1), (3, .int x8)]) [0, 1, 2] rfl ?_
                          exact Hj21 1
                    · refine v_icmp_ge (tgt := 88) C dM_isWellSplayed_81 (by decide) ?_ ?_
                      · refine v_iconst (v := 0) C dM_isWellSplayed_88 (by decide) ?_
                        refine v_lv (lv' := [(0, .ref a0), (1, .int p1), (3, .int x8), (4, .int y14), (5, .int y18)]) [0, 1, 3, 4, 5] rfl ?_
                        exact Hj40 0 y14
                      · refine v_iconst (v := 1) C dM_isWellSplayed_84 (by decide) ?_
                        refine v_goto (tgt := 89) C dM_isWellSplayed_85 (by decide) ?_
                        refine v_lv (lv' := [(0, .ref a0), (1, .int p1), (3, .int x8), (4, .int y14), (5, .int y18)]) [0, 1, 3, 4, 5] rfl ?_
                        exact Hj40 1 y14
            · refine v_icmp_eq (tgt := 65) C dM_isWellSplayed_58 (by decide) ?_ ?_
              · refine v_iconst (v := 0) C dM_isWellSplayed_65 (by decide) ?_
                exact Hj19 0
              · refine v_iconst (v := 1) C dM_isWellSplayed_61 (by decide) ?_
                refine v_goto (tgt := 66) C dM_isWellSplayed_62 (by decide) ?_
                exact Hj19 1
          · refine v_icmp_eq (tgt := 47) C dM_isWellSplayed_40 (by decide) ?_ ?_
            · refine v_iconst (v := 0) C dM_isWellSplayed_47 (by decide) ?_
              exact Hj15 0
            · refine v_iconst (v := 1) C dM_isWellSplayed_43 (by decide) ?_
              refine v_goto (tgt := 48) C dM_isWellSplayed_44 (by decide) ?_
              exact Hj15 1
  · refine v_icmp_ne (tgt := 18) C dM_isWellSplayed_11 (by decide) ?_ ?_
    · refine v_iconst (v := 0) C dM_isWellSplayed_18 (by decide) ?_
      exact Hj4 0
    · refine v_iconst (v := 1) C dM_isWellSplayed_14 (by decide) ?_
      refine v_goto (tgt := 19) C dM_isWellSplayed_15 (by decide) ?_
      exact Hj4 1
theorem dM_well_0 : decode prog_7_method_42_code 0 = .ok (.aload_n 0, 1) := by decide +kernel
theorem dM_well_1 : decode prog_7_method_42_code 1 = .ok (.iconst 0, 1) := by decide +kernel
theorem dM_well_2 : decode prog_7_method_42_code 2 = .ok (.putfield 73, 3) := by decide +kernel
theorem dM_well_5 : decode prog_7_method_42_code 5 = .ok (.iload_n 1, 1) := by decide +kernel
theorem dM_well_6 : decode prog_7_method_42_code 6 = .ok (.iload_n 2, 1) := by decide +kernel
theorem dM_well_7 : decode prog_7_method_42_code 7 = .ok (.invokestatic 160, 3) := by decide +kernel
theorem dM_well_10 : decode prog_7_method_42_code 10 = .ok (.ifCond .ne 6, 3) := by decide +kernel
theorem dM_well_13 : decode prog_7_method_42_code 13 = .ok (.bipush (-2), 2) := by decide +kernel
theorem dM_well_15 : decode prog_7_method_42_code 15 = .ok (.ireturn, 1) := by decide +kernel
theorem dM_well_16 : decode prog_7_method_42_code 16 = .ok (.iconst 4, 1) := by decide +kernel
theorem dM_well_17 : decode prog_7_method_42_code 17 = .ok (.iload_n 1, 1) := by decide +kernel
theorem dM_well_18 : decode prog_7_method_42_code 18 = .ok (.imul, 1) := by decide +kernel
theorem dM_well_19 : decode prog_7_method_42_code 19 = .ok (.iload_n 2, 1) := by decide +kernel
theorem dM_well_20 : decode prog_7_method_42_code 20 = .ok (.iadd, 1) := by decide +kernel
theorem dM_well_21 : decode prog_7_method_42_code 21 = .ok (.istore_n 3, 1) := by decide +kernel
theorem dM_well_22 : decode prog_7_method_42_code 22 = .ok (.aload_n 0, 1) := by decide +kernel
theorem dM_well_23 : decode prog_7_method_42_code 23 = .ok (.getfield 7, 3) := by decide +kernel
theorem dM_well_26 : decode prog_7_method_42_code 26 = .ok (.iload_n 3, 1) := by decide +kernel
theorem dM_well_27 : decode prog_7_method_42_code 27 = .ok (.iaload, 1) := by decide +kernel
theorem dM_well_28 : decode prog_7_method_42_code 28 = .ok (.ifCond .ne 11, 3) := by decide +kernel
theorem dM_well_31 : decode prog_7_method_42_code 31 = .ok (.aload_n 0, 1) := by decide +kernel
theorem dM_well_32 : decode prog_7_method_42_code 32 = .ok (.iload_n 3, 1) := by decide +kernel
theorem dM_well_33 : decode prog_7_method_42_code 33 = .ok (.invokevirtual 163, 3) := by decide +kernel
theorem dM_well_36 : decode prog_7_method_42_code 36 = .ok (.goto 8, 3) := by decide +kernel
theorem dM_well_39 : decode prog_7_method_42_code 39 = .ok (.aload_n 0, 1) := by decide +kernel
theorem dM_well_40 : decode prog_7_method_42_code 40 = .ok (.iload_n 3, 1) := by decide +kernel
theorem dM_well_41 : decode prog_7_method_42_code 41 = .ok (.invokevirtual 167, 3) := by decide +kernel
theorem dM_well_44 : decode prog_7_method_42_code 44 = .ok (.istore 4, 2) := by decide +kernel
theorem dM_well_46 : decode prog_7_method_42_code 46 = .ok (.iload 4, 2) := by decide +kernel
theorem dM_well_48 : decode prog_7_method_42_code 48 = .ok (.ifCond .eq 7, 3) := by decide +kernel
theorem dM_well_51 : decode prog_7_method_42_code 51 = .ok (.iconst 1, 1) := by decide +kernel
theorem dM_well_52 : decode prog_7_method_42_code 52 = .ok (.goto 4, 3) := by decide +kernel
theorem dM_well_55 : decode prog_7_method_42_code 55 = .ok (.iconst 0, 1) := by decide +kernel
theorem dM_well_56 : decode prog_7_method_42_code 56 = .ok (.ireturn, 1) := by decide +kernel
def FM_well (h0 : Hp) (a0 : Nat) (p1 : Int32) (p2 : Int32) : Option (Hp × Int32) :=
  pF h0 a0 5 20 (.int 0) (fun h1 =>
  (FM_isTree h1 p1 p2).bind (fun r2 =>
  if r2 = 0 then
    (some (h1, (-2)))
  else
    (gR h1 a0 5 3 (fun a3 =>
    ldI h1 a3 0 ((4 * p1) + p2) (fun x4 =>
    jn (fun (y5 : Int32) =>
    jn (fun (y7 : Int32) =>
    some (h1, y7))
    (fun (j8 : Int32 → Option (Hp × Int32)) =>
    if y5 = 0 then
      (j8 0)
    else
      (j8 1)))
    (fun (j6 : Int32 → Option (Hp × Int32)) =>
    if x4 = 0 then
      (gd (isO h1 a0 5 = true) ((FM_isWellCounted h1 a0 ((4 * p1) + p2)).bind (fun r12 =>
      j6 r12)))
    else
      (gd (isO h1 a0 5 = true) ((FM_isWellSplayed h1 a0 ((4 * p1) + p2)).bind (fun r10 =>
      j6 r10)))))))))
set_option maxRecDepth 100000 in
set_option maxHeartbeats 4000000 in
theorem mM_well (l : Launch) (h0 : Hp) (z0 : Nat) (a0 : Nat) (p1 : Int32) (p2 : Int32) (r : (Hp × Int32)) (hr : FM_well h0 a0 p1 p2 = some r) : vM False l yM_well (Cond.code yM_well prog_7_method_42_code 5 (some (.int)) :: gW) 3 [.ref a0, .int p1, .int p2] h0 z0 r.1 z0 (some (.int r.2)) 0 0 := by
  refine vM.of (by decide) rfl (Nat.le_of_ble_eq_true rfl) ?_
  intro p e s m args below meth c D dA C hin2
  refine (?_ : vO p l e (vR 3 0 0) s m args below meth c D dA (vA h0 z0) 5 False (fun r : (Hp × Int32) => MQ below (vQc False h0 z0 D dA r.1 z0 (some (.int r.2))) args s 0 0 (vAr False h0 z0)) 0 0 h0 z0 [(0, .ref a0), (1, .int p1), (2, .int p2)] 0 [] (FM_well h0 a0 p1 p2)) r hr
  obtain ⟨Q, hQ⟩ : ∃ Q : (Hp × Int32) → State → Prop, Q = (fun r : (Hp × Int32) => MQ below (vQc False h0 z0 D dA r.1 z0 (some (.int r.2))) args s 0 0 (vAr False h0 z0)) := ⟨_, rfl⟩
  rw [← hQ]
  unfold FM_well
  refine v_aload_n C dM_well_0 rfl 0 rfl ?_
  refine v_iconst (v := 0) C dM_well_1 (by decide) ?_
  refine v_put C v_cl5 (by decide) in_5 ty_5 ty_5_ok nm_5 rfl w_629 rfl (ty := .int) (by decide +kernel) rfl rfl dM_well_2 (fun h1 => ?_)
  refine v_iload_n C dM_well_5 rfl 1 rfl ?_
  refine v_iload_n C dM_well_6 rfl 2 rfl ?_
  refine v_bind fun r2 hr2 => ?_
  refine v_callS0 (N := 2) (As := [.int p1, .int p2]) (st := []) C (fun _ => trivial) (mM_isTree l h1 z0 p1 p2 r2 hr2) rfl w_810 w_53 (by decide +kernel) ⟨Nat.le_of_ble_eq_true rfl, Nat.le_of_ble_eq_true rfl⟩ rfl rfl (Nat.le_of_ble_eq_true rfl) ⟨Nat.zero_le _, Nat.zero_le _⟩ w_808 w_809 dM_well_7 ?_
  refine v_if_ne (tgt := 16) C dM_well_10 (by decide) ?_ ?_
  · refine v_iconst (v := 4) C dM_well_16 (by decide) ?_
    refine v_iload_n C dM_well_17 rfl 1 rfl ?_
    refine v_imul C dM_well_18 ?_
    refine v_iload_n C dM_well_19 rfl 2 rfl ?_
    refine v_iadd C dM_well_20 ?_
    refine v_istore_n (lv' := [(0, .ref a0), (3, .int ((4 * p1) + p2))]) C dM_well_21 rfl (by decide) [1, 0] rfl ?_
    refine v_aload_n C dM_well_22 rfl 0 rfl ?_
    refine v_getR C v_cl5 (by decide) in_5 rfl w_612 dM_well_23 (fun a3 => ?_)
    refine v_iload_n C dM_well_26 rfl 1 rfl ?_
    refine v_iald C rfl dM_well_27 (fun x4 => ?_)
    refine v_jn (fun (j : Int32 → Option (Hp × Int32)) => ∀ (y5 : Int32), vO p l e (vR 3 0 0) s m args below meth c D dA (vA h0 z0) 5 False Q 0 0 h1 z0 [] 44 [.int y5] (j y5)) ?_ (fun j6 Hj6 => ?_)
    · intro y5
      refine v_istore (lv' := [(4, .int y5)]) C dM_well_44 (by decide) [0] rfl ?_
      refine v_iload C dM_well_46 0 rfl ?_
      refine v_jn (fun (j : Int32 → Option (Hp × Int32)) => ∀ (y7 : Int32), vO p l e (vR 3 0 0) s m args below meth c D dA (vA h0 z0) 5 False Q 0 0 h1 z0 [] 56 [.int y7] (j y7)) ?_ (fun j8 Hj8 => ?_)
      · intro y7
        exact v_iret C dM_well_56 (by rw [hQ])
      · refine v_if_eq (tgt := 55) C dM_well_48 (by decide) ?_ ?_
        · refine v_iconst (v := 0) C dM_well_55 (by decide) ?_
          refine v_lv (lv' := []) [] rfl ?_
          exact Hj8 0
        · refine v_iconst (v := 1) C dM_well_51 (by decide) ?_
          refine v_goto (tgt := 56) C dM_well_52 (by decide) ?_
          refine v_lv (lv' := []) [] rfl ?_
          exact Hj8 1
    · refine v_if_ne (tgt := 39) C dM_well_28 (by decide) ?_ ?_
      · refine v_aload_n C dM_well_39 rfl 0 rfl ?_
        refine v_iload_n C dM_well_40 rfl 1 rfl ?_
        refine v_gd fun hO9 => ?_
        refine v_bind fun r10 hr10 => ?_
        refine v_callV0 (N := 1) (As := [.int ((4 * p1) + p2)]) (st := []) C (fun _ => trivial) (mM_isWellSplayed l h1 z0 a0 ((4 * p1) + p2) r10 hr10) rfl w_846 w_53 (by decide +kernel) ⟨Nat.le_of_ble_eq_true rfl, Nat.le_of_ble_eq_true rfl⟩ rfl rfl (Nat.le_of_ble_eq_true rfl) ⟨Nat.zero_le _, Nat.zero_le _⟩ w_843 w_845 w_44 v_cl5 rfl hO9 dM_well_41 ?_
        refine v_lv (lv' := []) [] rfl ?_
        exact Hj6 r10
      · refine v_aload_n C dM_well_31 rfl 0 rfl ?_
        refine v_iload_n C dM_well_32 rfl 1 rfl ?_
        refine v_gd fun hO11 => ?_
        refine v_bind fun r12 hr12 => ?_
        refine v_callV0 (N := 1) (As := [.int ((4 * p1) + p2)]) (st := []) C (fun _ => trivial) (mM_isWellCounted l h1 z0 a0 ((4 * p1) + p2) r12 hr12) rfl w_842 w_53 (by decide +kernel) ⟨Nat.le_of_ble_eq_true rfl, Nat.le_of_ble_eq_true rfl⟩ rfl rfl (Nat.le_of_ble_eq_true rfl) ⟨Nat.zero_le _, Nat.zero_le _⟩ w_839 w_841 w_43 v_cl5 rfl hO11 dM_well_33 ?_
        refine v_goto (tgt := 44) C dM_well_36 (by decide) ?_
        refine v_lv (lv' := []) [] rfl ?_
        exact Hj6 r12
  · refine v_bipush (v := (-2)) C dM_well_13 (by decide) ?_
    exact v_iret C dM_well_15 (by rw [hQ])
