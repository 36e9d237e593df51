theorem dA_drop_0 : decode prog_1_method_7_code 0 = .ok (.aload_n 0, 1) := by decide +kernel
theorem dA_drop_1 : decode prog_1_method_7_code 1 = .ok (.getfield 29, 3) := by decide +kernel
theorem dA_drop_4 : decode prog_1_method_7_code 4 = .ok (.istore_n 1, 1) := by decide +kernel
theorem dA_drop_5 : decode prog_1_method_7_code 5 = .ok (.aload_n 0, 1) := by decide +kernel
theorem dA_drop_6 : decode prog_1_method_7_code 6 = .ok (.iconst 0, 1) := by decide +kernel
theorem dA_drop_7 : decode prog_1_method_7_code 7 = .ok (.putfield 29, 3) := by decide +kernel
theorem dA_drop_10 : decode prog_1_method_7_code 10 = .ok (.aload_n 0, 1) := by decide +kernel
theorem dA_drop_11 : decode prog_1_method_7_code 11 = .ok (.iconst 0, 1) := by decide +kernel
theorem dA_drop_12 : decode prog_1_method_7_code 12 = .ok (.putfield 33, 3) := by decide +kernel
theorem dA_drop_15 : decode prog_1_method_7_code 15 = .ok (.aload_n 0, 1) := by decide +kernel
theorem dA_drop_16 : decode prog_1_method_7_code 16 = .ok (.getfield 42, 3) := by decide +kernel
theorem dA_drop_19 : decode prog_1_method_7_code 19 = .ok (.invokevirtual 114, 3) := by decide +kernel
theorem dA_drop_22 : decode prog_1_method_7_code 22 = .ok (.iload_n 1, 1) := by decide +kernel
theorem dA_drop_23 : decode prog_1_method_7_code 23 = .ok (.ireturn, 1) := by decide +kernel
def FA_drop (h0 : Hp) (a0 : Nat) : Option (Hp × Int32) :=
  gI h0 a0 4 7 (fun x1 =>
  pF h0 a0 4 7 (.int 0) (fun h2 =>
  pF h2 a0 4 8 (.int 0) (fun h3 =>
  gR h3 a0 4 11 (fun a4 =>
  gd (isO h3 a4 2 = true) ((FR_begin h3 a4).bind (fun r6 =>
  some (r6, x1)))))))
set_option maxRecDepth 100000 in
set_option maxHeartbeats 4000000 in
theorem mA_drop (l : Launch) (h0 : Hp) (z0 : Nat) (a0 : Nat) (r : (Hp × Int32)) (hr : FA_drop h0 a0 = some r) : vM False l yA_drop (Cond.code yA_drop prog_1_method_7_code 2 (some (.int)) :: gW) 1 [.ref a0] h0 z0 r.1 z0 (some (.int r.2)) 0 0 := by
  refine vM.of (by decide) rfl (Nat.le_of_ble_eq_true rfl) ?_
  intro p e s m args below meth c D dA C hin2
  refine (?_ : vO p l e (vR 1 0 0) s m args below meth c D dA (vA h0 z0) 2 False (fun r : (Hp × Int32) => MQ below (vQc False h0 z0 D dA r.1 z0 (some (.int r.2))) args s 0 0 (vAr False h0 z0)) 0 0 h0 z0 [(0, .ref a0)] 0 [] (FA_drop h0 a0)) r hr
  obtain ⟨Q, hQ⟩ : ∃ Q : (Hp × Int32) → State → Prop, Q = (fun r : (Hp × Int32) => MQ below (vQc False h0 z0 D dA r.1 z0 (some (.int r.2))) args s 0 0 (vAr False h0 z0)) := ⟨_, rfl⟩
  rw [← hQ]
  unfold FA_drop
  refine v_aload_n C dA_drop_0 rfl 0 rfl ?_
  refine v_getI C v_cl4 (by decide) in_4 rfl w_207 dA_drop_1 (fun x1 => ?_)
  refine v_istore_n (lv' := [(0, .ref a0), (1, .int x1)]) C dA_drop_4 rfl (by decide) [1, 0] rfl ?_
  refine v_aload_n C dA_drop_5 rfl 0 rfl ?_
  refine v_iconst (v := 0) C dA_drop_6 (by decide) ?_
  refine v_put C v_cl4 (by decide) in_4 ty_4 ty_4_ok nm_4 rfl w_207 rfl (ty := .int) (by decide +kernel) rfl rfl dA_drop_7 (fun h2 => ?_)
  refine v_aload_n C dA_drop_10 rfl 0 rfl ?_
  refine v_iconst (v := 0) C dA_drop_11 (by decide) ?_
  refine v_put C v_cl4 (by decide) in_4 ty_4 ty_4_ok nm_4 rfl w_208 rfl (ty := .int) (by decide +kernel) rfl rfl dA_drop_12 (fun h3 => ?_)
  refine v_aload_n C dA_drop_15 rfl 0 rfl ?_
  refine v_getR C v_cl4 (by decide) in_4 rfl w_211 dA_drop_16 (fun a4 => ?_)
  refine v_gd fun hO5 => ?_
  refine v_bind fun r6 hr6 => ?_
  refine v_callV0 (N := 0) (As := []) (st := []) C (fun f => f.elim) (mR_begin l h3 z0 a4 r6 hr6) rfl w_259 w_46 (by decide +kernel) ⟨Nat.le_of_ble_eq_true rfl, Nat.le_of_ble_eq_true rfl⟩ rfl rfl (Nat.le_of_ble_eq_true rfl) ⟨Nat.zero_le _, Nat.zero_le _⟩ w_367 w_257 w_258 v_cl2 rfl hO5 dA_drop_19 ?_
  refine v_iload_n C dA_drop_22 rfl 1 rfl ?_
  exact v_iret C dA_drop_23 (by rw [hQ])
theorem dR_isInCodeOfOtherThan_0 : decode prog_4_method_5_code 0 = .ok (.aload_n 0, 1) := by decide +kernel
theorem dR_isInCodeOfOtherThan_1 : decode prog_4_method_5_code 1 = .ok (.getfield 9, 3) := by decide +kernel
theorem dR_isInCodeOfOtherThan_4 : decode prog_4_method_5_code 4 = .ok (.iconst (-1), 1) := by decide +kernel
theorem dR_isInCodeOfOtherThan_5 : decode prog_4_method_5_code 5 = .ok (.if_icmp .eq 15, 3) := by decide +kernel
theorem dR_isInCodeOfOtherThan_8 : decode prog_4_method_5_code 8 = .ok (.aload_n 0, 1) := by decide +kernel
theorem dR_isInCodeOfOtherThan_9 : decode prog_4_method_5_code 9 = .ok (.getfield 9, 3) := by decide +kernel
theorem dR_isInCodeOfOtherThan_12 : decode prog_4_method_5_code 12 = .ok (.iload_n 1, 1) := by decide +kernel
theorem dR_isInCodeOfOtherThan_13 : decode prog_4_method_5_code 13 = .ok (.if_icmp .eq 7, 3) := by decide +kernel
theorem dR_isInCodeOfOtherThan_16 : decode prog_4_method_5_code 16 = .ok (.iconst 1, 1) := by decide +kernel
theorem dR_isInCodeOfOtherThan_17 : decode prog_4_method_5_code 17 = .ok (.goto 4, 3) := by decide +kernel
theorem dR_isInCodeOfOtherThan_20 : decode prog_4_method_5_code 20 = .ok (.iconst 0, 1) := by decide +kernel
theorem dR_isInCodeOfOtherThan_21 : decode prog_4_method_5_code 21 = .ok (.ireturn, 1) := by decide +kernel
def FR_isInCodeOfOtherThan (h0 : Hp) (a0 : Nat) (p1 : Int32) : Option Int32 :=
  gI h0 a0 2 0 (fun x1 =>
  jn (fun (y2 : Int32) =>
  gd (y2 = 0 ∨ y2 = 1) (some y2))
  (fun (j3 : Int32 → Option Int32) =>
  jn (j3 0)
  (fun (j4 : Option Int32) =>
  if x1 = (-1) then
    (j4)
  else
    (gI h0 a0 2 0 (fun x5 =>
    if x5 = p1 then
      (j4)
    else
      (j3 1))))))
set_option maxRecDepth 100000 in
set_option maxHeartbeats 4000000 in
theorem mR_isInCodeOfOtherThan (l : Launch) (h0 : Hp) (z0 : Nat) (a0 : Nat) (p1 : Int32) (r : Int32) (hr : FR_isInCodeOfOtherThan h0 a0 p1 = some r) : vM True l yR_isInCodeOfOtherThan (Cond.code yR_isInCodeOfOtherThan prog_4_method_5_code 2 (some (.boolean)) :: gW) 0 [.ref a0, .int p1] h0 z0 h0 z0 (some (.int r)) 0 0 := by
  refine vM.of (by decide) rfl (Nat.le_of_ble_eq_true rfl) ?_
  intro p e s m args below meth c D dA C hin2
  refine (?_ : vO p l e (vR 0 0 0) s m args below meth c D dA (vA h0 z0) 2 True (fun r : Int32 => MQ below (vQc True h0 z0 D dA h0 z0 (some (.int r))) args s 0 0 (vAr True h0 z0)) 0 0 h0 z0 [(0, .ref a0), (1, .int p1)] 0 [] (FR_isInCodeOfOtherThan h0 a0 p1)) r hr
  obtain ⟨Q, hQ⟩ : ∃ Q : Int32 → State → Prop, Q = (fun r : Int32 => MQ below (vQc True h0 z0 D dA h0 z0 (some (.int r))) args s 0 0 (vAr True h0 z0)) := ⟨_, rfl⟩
  rw [← hQ]
  unfold FR_isInCodeOfOtherThan
  refine v_aload_n C dR_isInCodeOfOtherThan_0 rfl 0 rfl ?_
  refine v_getI C v_cl2 (by decide) in_2 rfl w_73 dR_isInCodeOfOtherThan_1 (fun x1 => ?_)
  refine v_iconst (v := (-1)) C dR_isInCodeOfOtherThan_4 (by decide) ?_
  refine v_jn (fun (j : Int32 → Option Int32) => ∀ (y2 : Int32), vO p l e (vR 0 0 0) s m args below meth c D dA (vA h0 z0) 2 True Q 0 0 h0 z0 [] 21 [.int y2] (j y2)) ?_ (fun j3 Hj3 => ?_)
  · intro y2
    exact v_zret C dR_isInCodeOfOtherThan_21 (by rw [hQ])
  · refine v_jn (fun (j : Option Int32) => vO p l e (vR 0 0 0) s m args below meth c D dA (vA h0 z0) 2 True Q 0 0 h0 z0 [] 20 [] j) ?_ (fun j4 Hj4 => ?_)
    · refine v_iconst (v := 0) C dR_isInCodeOfOtherThan_20 (by decide) ?_
      exact Hj3 0
    · refine v_icmp_eq (tgt := 20) C dR_isInCodeOfOtherThan_5 (by decide) ?_ ?_
      · refine v_lv (lv' := []) [] rfl ?_
        exact Hj4
      · refine v_aload_n C dR_isInCodeOfOtherThan_8 rfl 0 rfl ?_
        refine v_getI C v_cl2 (by decide) in_2 rfl w_73 dR_isInCodeOfOtherThan_9 (fun x5 => ?_)
        refine v_iload_n C dR_isInCodeOfOtherThan_12 rfl 1 rfl ?_
        refine v_icmp_eq (tgt := 20) C dR_isInCodeOfOtherThan_13 (by decide) ?_ ?_
        · refine v_lv (lv' := []) [] rfl ?_
          exact Hj4
        · refine v_iconst (v := 1) C dR_isInCodeOfOtherThan_16 (by decide) ?_
          refine v_goto (tgt := 21) C dR_isInCodeOfOtherThan_17 (by decide) ?_
          refine v_lv (lv' := []) [] rfl ?_
          exact Hj3 1
theorem dR_enterCodeOf_0 : decode prog_4_method_3_code 0 = .ok (.aload_n 0, 1) := by decide +kernel
theorem dR_enterCodeOf_1 : decode prog_4_method_3_code 1 = .ok (.iload_n 1, 1) := by decide +kernel
theorem dR_enterCodeOf_2 : decode prog_4_method_3_code 2 = .ok (.putfield 9, 3) := by decide +kernel
theorem dR_enterCodeOf_5 : decode prog_4_method_3_code 5 = .ok (.return_, 1) := by decide +kernel
def FR_enterCodeOf (h0 : Hp) (a0 : Nat) (p1 : Int32) : Option Hp :=
  pF h0 a0 2 0 (.int p1) (fun h1 =>
  some h1)
set_option maxRecDepth 100000 in
set_option maxHeartbeats 4000000 in
theorem mR_enterCodeOf (l : Launch) (h0 : Hp) (z0 : Nat) (a0 : Nat) (p1 : Int32) (r : Hp) (hr : FR_enterCodeOf h0 a0 p1 = some r) : vM False l yR_enterCodeOf (Cond.code yR_enterCodeOf prog_4_method_3_code 2 none :: gW) 0 [.ref a0, .int p1] h0 z0 r z0 none 0 0 := by
  refine vM.of (by decide) rfl (Nat.le_of_ble_eq_true rfl) ?_
  intro p e s m args below meth c D dA C hin2
  refine (?_ : vO p l e (vR 0 0 0) s m args below meth c D dA (vA h0 z0) 2 False (fun r : Hp => MQ below (vQc False h0 z0 D dA r z0 none) args s 0 0 (vAr False h0 z0)) 0 0 h0 z0 [(0, .ref a0), (1, .int p1)] 0 [] (FR_enterCodeOf h0 a0 p1)) r hr
  obtain ⟨Q, hQ⟩ : ∃ Q : Hp → State → Prop, Q = (fun r : Hp => MQ below (vQc False h0 z0 D dA r z0 none) args s 0 0 (vAr False h0 z0)) := ⟨_, rfl⟩
  rw [← hQ]
  unfold FR_enterCodeOf
  refine v_aload_n C dR_enterCodeOf_0 rfl 0 rfl ?_
  refine v_iload_n C dR_enterCodeOf_1 rfl 1 rfl ?_
  refine v_put C v_cl2 (by decide) in_2 ty_2 ty_2_ok nm_2 rfl w_73 rfl (ty := .int) (by decide +kernel) rfl rfl dR_enterCodeOf_2 (fun h1 => ?_)
  exact v_vret C dR_enterCodeOf_5 (by rw [hQ])
theorem dA_readNumberBit_0 : decode prog_1_method_32_code 0 = .ok (.aload_n 0, 1) := by decide +kernel
theorem dA_readNumberBit_1 : decode prog_1_method_32_code 1 = .ok (.getfield 42, 3) := by decide +kernel
theorem dA_readNumberBit_4 : decode prog_1_method_32_code 4 = .ok (.iconst 2, 1) := by decide +kernel
theorem dA_readNumberBit_5 : decode prog_1_method_32_code 5 = .ok (.aload_n 0, 1) := by decide +kernel
theorem dA_readNumberBit_6 : decode prog_1_method_32_code 6 = .ok (.getfield 42, 3) := by decide +kernel
theorem dA_readNumberBit_9 : decode prog_1_method_32_code 9 = .ok (.getfield 210, 3) := by decide +kernel
theorem dA_readNumberBit_12 : decode prog_1_method_32_code 12 = .ok (.imul, 1) := by decide +kernel
theorem dA_readNumberBit_13 : decode prog_1_method_32_code 13 = .ok (.iload_n 2, 1) := by decide +kernel
theorem dA_readNumberBit_14 : decode prog_1_method_32_code 14 = .ok (.iadd, 1) := by decide +kernel
theorem dA_readNumberBit_15 : decode prog_1_method_32_code 15 = .ok (.putfield 210, 3) := by decide +kernel
theorem dA_readNumberBit_18 : decode prog_1_method_32_code 18 = .ok (.aload_n 0, 1) := by decide +kernel
theorem dA_readNumberBit_19 : decode prog_1_method_32_code 19 = .ok (.getfield 42, 3) := by decide +kernel
theorem dA_readNumberBit_22 : decode prog_1_method_32_code 22 = .ok (.dup, 1) := by decide +kernel
theorem dA_readNumberBit_23 : decode prog_1_method_32_code 23 = .ok (.getfield 213, 3) := by decide +kernel
theorem dA_readNumberBit_26 : decode prog_1_method_32_code 26 = .ok (.iconst 1, 1) := by decide +kernel
theorem dA_readNumberBit_27 : decode prog_1_method_32_code 27 = .ok (.iadd, 1) := by decide +kernel
theorem dA_readNumberBit_28 : decode prog_1_method_32_code 28 = .ok (.putfield 213, 3) := by decide +kernel
theorem dA_readNumberBit_31 : decode prog_1_method_32_code 31 = .ok (.aload_n 0, 1) := by decide +kernel
theorem dA_readNumberBit_32 : decode prog_1_method_32_code 32 = .ok (.getfield 42, 3) := by decide +kernel
theorem dA_readNumberBit_35 : decode prog_1_method_32_code 35 = .ok (.getfield 213, 3) := by decide +kernel
theorem dA_readNumberBit_38 : decode prog_1_method_32_code 38 = .ok (.aload_n 0, 1) := by decide +kernel
theorem dA_readNumberBit_39 : decode prog_1_method_32_code 39 = .ok (.getfield 62, 3) := by decide +kernel
theorem dA_readNumberBit_42 : decode prog_1_method_32_code 42 = .ok (.if_icmp .ge 5, 3) := by decide +kernel
theorem dA_readNumberBit_45 : decode prog_1_method_32_code 45 = .ok (.iconst (-1), 1) := by decide +kernel
theorem dA_readNumberBit_46 : decode prog_1_method_32_code 46 = .ok (.ireturn, 1) := by decide +kernel
theorem dA_readNumberBit_47 : decode prog_1_method_32_code 47 = .ok (.aload_n 0, 1) := by decide +kernel
theorem dA_readNumberBit_48 : decode prog_1_method_32_code 48 = .ok (.getfield 42, 3) := by decide +kernel
theorem dA_readNumberBit_51 : decode prog_1_method_32_code 51 = .ok (.getfield 210, 3) := by decide +kernel
theorem dA_readNumberBit_54 : decode prog_1_method_32_code 54 = .ok (.istore_n 3, 1) := by decide +kernel
theorem dA_readNumberBit_55 : decode prog_1_method_32_code 55 = .ok (.aload_n 0, 1) := by decide +kernel
theorem dA_readNumberBit_56 : decode prog_1_method_32_code 56 = .ok (.getfield 42, 3) := by decide +kernel
theorem dA_readNumberBit_59 : decode prog_1_method_32_code 59 = .ok (.invokevirtual 114, 3) := by decide +kernel
theorem dA_readNumberBit_62 : decode prog_1_method_32_code 62 = .ok (.aload_n 0, 1) := by decide +kernel
theorem dA_readNumberBit_63 : decode prog_1_method_32_code 63 = .ok (.iload_n 3, 1) := by decide +kernel
theorem dA_readNumberBit_64 : decode prog_1_method_32_code 64 = .ok (.invokevirtual 97, 3) := by decide +kernel
theorem dA_readNumberBit_67 : decode prog_1_method_32_code 67 = .ok (.ifCond .eq 11, 3) := by decide +kernel
theorem dA_readNumberBit_70 : decode prog_1_method_32_code 70 = .ok (.aload_n 1, 1) := by decide +kernel
theorem dA_readNumberBit_71 : decode prog_1_method_32_code 71 = .ok (.iload_n 3, 1) := by decide +kernel
theorem dA_readNumberBit_72 : decode prog_1_method_32_code 72 = .ok (.invokevirtual 130, 3) := by decide +kernel
theorem dA_readNumberBit_75 : decode prog_1_method_32_code 75 = .ok (.ifCond .eq 6, 3) := by decide +kernel
theorem dA_readNumberBit_78 : decode prog_1_method_32_code 78 = .ok (.bipush (-6), 2) := by decide +kernel
theorem dA_readNumberBit_80 : decode prog_1_method_32_code 80 = .ok (.ireturn, 1) := by decide +kernel
theorem dA_readNumberBit_81 : decode prog_1_method_32_code 81 = .ok (.aload_n 1, 1) := by decide +kernel
theorem dA_readNumberBit_82 : decode prog_1_method_32_code 82 = .ok (.iload_n 3, 1) := by decide +kernel
theorem dA_readNumberBit_83 : decode prog_1_method_32_code 83 = .ok (.aload_n 0, 1) := by decide +kernel
theorem dA_readNumberBit_84 : decode prog_1_method_32_code 84 = .ok (.getfield 36, 3) := by decide +kernel
theorem dA_readNumberBit_87 : decode prog_1_method_32_code 87 = .ok (.invokevirtual 110, 3) := by decide +kernel
theorem dA_readNumberBit_90 : decode prog_1_method_32_code 90 = .ok (.iload_n 3, 1) := by decide +kernel
theorem dA_readNumberBit_91 : decode prog_1_method_32_code 91 = .ok (.ireturn, 1) := by decide +kernel
def FA_readNumberBit (h0 : Hp) (a0 : Nat) (u1 : Nat) (p2 : Int32) : Option (Hp × Int32) :=
  gR h0 a0 4 11 (fun a1 =>
  gR h0 a0 4 11 (fun a2 =>
  gI h0 a2 2 2 (fun x3 =>
  pF h0 a1 2 2 (.int ((2 * x3) + p2)) (fun h4 =>
  gR h4 a0 4 11 (fun a5 =>
  gI h4 a5 2 3 (fun x6 =>
  pF h4 a5 2 3 (.int (x6 + 1)) (fun h7 =>
  gR h7 a0 4 11 (fun a8 =>
  gI h7 a8 2 3 (fun x9 =>
  gI h7 a0 4 1 (fun x10 =>
  if x10 ≤ x9 then
    (gR h7 a0 4 11 (fun a11 =>
    gI h7 a11 2 2 (fun x12 =>
    gR h7 a0 4 11 (fun a13 =>
    gd (isO h7 a13 2 = true) ((FR_begin h7 a13).bind (fun r15 =>
    gd (isO r15 a0 4 = true) ((FA_isSign r15 a0 x12).bind (fun r17 =>
    jn (some (r15, (-6)))
    (fun (j18 : Option (Hp × Int32)) =>
    if r17 = 0 then
      (j18)
    else
      (gd (isO r15 u1 3 = true) ((FT_hasLeafOf r15 u1 x12).bind (fun r20 =>
      if r20 = 0 then
        (gI r15 a0 4 9 (fun x21 =>
        gd (isO r15 u1 3 = true) ((FT_stepBy r15 u1 x12 x21).bind (fun r23 =>
        some (r23, x12)))))
      else
        (j18)))))))))))))
  else
    (some (h7, (-1)))))))))))))
set_option maxRecDepth 100000 in
set_option maxHeartbeats 4000000 in
theorem mA_readNumberBit (l : Launch) (h0 : Hp) (z0 : Nat) (a0 : Nat) (u1 : Nat) (p2 : Int32) (r : (Hp × Int32)) (hr : FA_readNumberBit h0 a0 u1 p2 = some r) : vM False l yA_readNumberBit (Cond.code yA_readNumberBit prog_1_method_32_code 4 (some (.int)) :: gW) 5 [.ref a0, .ref u1, .int p2] h0 z0 r.1 z0 (some (.int r.2)) 0 0 := by
  refine vM.of (by decide) rfl (Nat.le_of_ble_eq_true rfl) ?_
  intro p e s m args below meth c D dA C hin2
  refine (?_ : vO p l e (vR 5 0 0) s m args below meth c D dA (vA h0 z0) 4 False (fun r : (Hp × Int32) => MQ below (vQc False h0 z0 D dA r.1 z0 (some (.int r.2))) args s 0 0 (vAr False h0 z0)) 0 0 h0 z0 [(0, .ref a0), (1, .ref u1), (2, .int p2)] 0 [] (FA_readNumberBit h0 a0 u1 p2)) r hr
  obtain ⟨Q, hQ⟩ : ∃ Q : (Hp × Int32) → State → Prop, Q = (fun r : (Hp × Int32) => MQ below (vQc False h0 z0 D dA r.1 z0 (some (.int r.2))) args s 0 0 (vAr False h0 z0)) := ⟨_, rfl⟩
  rw [← hQ]
  unfold FA_readNumberBit
  refine v_aload_n C dA_readNumberBit_0 rfl 0 rfl ?_
  refine v_getR C v_cl4 (by decide) in_4 rfl w_211 dA_readNumberBit_1 (fun a1 => ?_)
  refine v_iconst (v := 2) C dA_readNumberBit_4 (by decide) ?_
  refine v_aload_n C dA_readNumberBit_5 rfl 0 rfl ?_
  refine v_getR C v_cl4 (by decide) in_4 rfl w_211 dA_readNumberBit_6 (fun a2 => ?_)
  refine v_getIN C v_cl2 (by decide) in_2 rfl (nf_11 C.2.2.2.2.2.2.2.2.2) dA_readNumberBit_9 (fun x3 => ?_)
  refine v_imul C dA_readNumberBit_12 ?_
  refine v_iload_n C dA_readNumberBit_13 rfl 2 rfl ?_
  refine v_iadd C dA_readNumberBit_14 ?_
  refine v_putN C v_cl2 (by decide) in_2 ty_2 ty_2_ok nm_2 rfl (nf_11 C.2.2.2.2.2.2.2.2.2) rfl (ty := .int) (by decide +kernel) rfl rfl dA_readNumberBit_15 (fun h4 => ?_)
  refine v_aload_n C dA_readNumberBit_18 rfl 0 rfl ?_
  refine v_getR C v_cl4 (by decide) in_4 rfl w_211 dA_readNumberBit_19 (fun a5 => ?_)
  refine v_dup C dA_readNumberBit_22 rfl ?_
  refine v_getIN C v_cl2 (by decide) in_2 rfl (nf_12 C.2.2.2.2.2.2.2.2.2) dA_readNumberBit_23 (fun x6 => ?_)
  refine v_iconst (v := 1) C dA_readNumberBit_26 (by decide) ?_
  refine v_iadd C dA_readNumberBit_27 ?_
  refine v_putN C v_cl2 (by decide) in_2 ty_2 ty_2_ok nm_2 rfl (nf_12 C.2.2.2.2.2.2.2.2.2) rfl (ty := .int) (by decide +kernel) rfl rfl dA_readNumberBit_28 (fun h7 => ?_)
  refine v_aload_n C dA_readNumberBit_31 rfl 0 rfl ?_
  refine v_getR C v_cl4 (by decide) in_4 rfl w_211 dA_readNumberBit_32 (fun a8 => ?_)
  refine v_getIN C v_cl2 (by decide) in_2 rfl (nf_12 C.2.2.2.2.2.2.2.2.2) dA_readNumberBit_35 (fun x9 => ?_)
  refine v_aload_n C dA_readNumberBit_38 rfl 0 rfl ?_
  refine v_getI C v_cl4 (by decide) in_4 rfl w_201 dA_readNumberBit_39 (fun x10 => ?_)
  refine v_icmp_ge (tgt := 47) C dA_readNumberBit_42 (by decide) ?_ ?_
  · refine v_aload_n C dA_readNumberBit_47 rfl 0 rfl ?_
    refine v_getR C v_cl4 (by decide) in_4 rfl w_211 dA_readNumberBit_48 (fun a11 => ?_)
    refine v_getIN C v_cl2 (by decide) in_2 rfl (nf_11 C.2.2.2.2.2.2.2.2.2) dA_readNumberBit_51 (fun x12 => ?_)
    refine v_istore_n (lv' := [(0, .ref a0), (1, .ref u1), (3, .int x12)]) C dA_readNumberBit_54 rfl (by decide) [1, 2, 0] rfl ?_
    refine v_aload_n C dA_readNumberBit_55 rfl 0 rfl ?_
    refine v_getR C v_cl4 (by decide) in_4 rfl w_211 dA_readNumberBit_56 (fun a13 => ?_)
    refine v_gd fun hO14 => ?_
    refine v_bind fun r15 hr15 => ?_
    refine v_callV0 (N := 0) (As := []) (st := []) C (fun f => f.elim) (mR_begin l h7 z0 a13 r15 hr15) rfl w_259 w_46 (by decide +kernel) ⟨Nat.le_of_ble_eq_true rfl, Nat.le_of_ble_eq_true rfl⟩ rfl rfl (Nat.le_of_ble_eq_true rfl) ⟨Nat.zero_le _, Nat.zero_le _⟩ w_367 w_257 w_258 v_cl2 rfl hO14 dA_readNumberBit_59 ?_
    refine v_aload_n C dA_readNumberBit_62 rfl 0 rfl ?_
    refine v_iload_n C dA_readNumberBit_63 rfl 2 rfl ?_
    refine v_gd fun hO16 => ?_
    refine v_bind fun r17 hr17 => ?_
    refine v_callV0 (N := 1) (As := [.int x12]) (st := []) C (fun _ => trivial) (mA_isSign l r15 z0 a0 x12 r17 hr17) rfl w_272 w_45 (by decide +kernel) ⟨Nat.le_of_ble_eq_true rfl, Nat.le_of_ble_eq_true rfl⟩ rfl rfl (Nat.le_of_ble_eq_true rfl) ⟨Nat.zero_le _, Nat.zero_le _⟩ w_269 w_271 w_3 v_cl4 rfl hO16 dA_readNumberBit_64 ?_
    refine v_jn (fun (j : Option (Hp × Int32)) => vO p l e (vR 5 0 0) s m args below meth c D dA (vA h0 z0) 4 False Q 0 0 r15 z0 [] 78 [] j) ?_ (fun j18 Hj18 => ?_)
    · refine v_bipush (v := (-6)) C dA_readNumberBit_78 (by decide) ?_
      exact v_iret C dA_readNumberBit_80 (by rw [hQ])
    · refine v_if_eq (tgt := 78) C dA_readNumberBit_67 (by decide) ?_ ?_
      · refine v_lv (lv' := []) [] rfl ?_
        exact Hj18
      · refine v_aload_n C dA_readNumberBit_70 rfl 1 rfl ?_
        refine v_iload_n C dA_readNumberBit_71 rfl 2 rfl ?_
        refine v_gd fun hO19 => ?_
        refine v_bind fun r20 hr20 => ?_
        refine v_callV0 (N := 1) (As := [.int x12]) (st := []) C (fun _ => trivial) (mT_hasLeafOf l r15 z0 u1 x12 r20 hr20) rfl w_280 w_50 (by decide +kernel) ⟨Nat.le_of_ble_eq_true rfl, Nat.le_of_ble_eq_true rfl⟩ rfl rfl (Nat.le_of_ble_eq_true rfl) ⟨Nat.zero_le _, Nat.zero_le _⟩ w_277 w_278 w_279 v_cl3 rfl hO19 dA_readNumberBit_72 ?_
        refine v_if_eq (tgt := 81) C dA_readNumberBit_75 (by decide) ?_ ?_
        · refine v_aload_n C dA_readNumberBit_81 rfl 1 rfl ?_
          refine v_iload_n C dA_readNumberBit_82 rfl 2 rfl ?_
          refine v_aload_n C dA_readNumberBit_83 rfl 0 rfl ?_
          refine v_getI C v_cl4 (by decide) in_4 rfl w_209 dA_readNumberBit_84 (fun x21 => ?_)
          refine v_gd fun hO22 => ?_
          refine v_bind fun r23 hr23 => ?_
          refine v_callV0 (N := 2) (As := [.int x12, .int x21]) (st := []) C (fun f => f.elim) (mT_stepBy l r15 z0 u1 x12 x21 r23 hr23) rfl w_305 w_50 (by decide +kernel) ⟨Nat.le_of_ble_eq_true rfl, Nat.le_of_ble_eq_true rfl⟩ rfl rfl (Nat.le_of_ble_eq_true rfl) ⟨Nat.zero_le _, Nat.zero_le _⟩ w_302 w_303 w_304 v_cl3 rfl hO22 dA_readNumberBit_87 ?_
          refine v_iload_n C dA_readNumberBit_90 rfl 2 rfl ?_
          exact v_iret C dA_readNumberBit_91 (by rw [hQ])
        · refine v_lv (lv' := []) [] rfl ?_
          exact Hj18
  · refine v_iconst (v := (-1)) C dA_readNumberBit_45 (by decide) ?_
    exact v_iret C dA_readNumberBit_46 (by rw [hQ])
theorem dT_childOf_0 : decode prog_5_method_7_code 0 = .ok (.iload_n 2, 1) := by decide +kernel
theorem dT_childOf_1 : decode prog_5_method_7_code 1 = .ok (.ifCond .ne 12, 3) := by decide +kernel
theorem dT_childOf_4 : decode prog_5_method_7_code 4 = .ok (.aload_n 0, 1) := by decide +kernel
theorem dT_childOf_5 : decode prog_5_method_7_code 5 = .ok (.getfield 45, 3) := by decide +kernel
theorem dT_childOf_8 : decode prog_5_method_7_code 8 = .ok (.iload_n 1, 1) := by decide +kernel
theorem dT_childOf_9 : decode prog_5_method_7_code 9 = .ok (.iaload, 1) := by decide +kernel
theorem dT_childOf_10 : decode prog_5_method_7_code 10 = .ok (.goto 9, 3) := by decide +kernel
theorem dT_childOf_13 : decode prog_5_method_7_code 13 = .ok (.aload_n 0, 1) := by decide +kernel
theorem dT_childOf_14 : decode prog_5_method_7_code 14 = .ok (.getfield 48, 3) := by decide +kernel
theorem dT_childOf_17 : decode prog_5_method_7_code 17 = .ok (.iload_n 1, 1) := by decide +kernel
theorem dT_childOf_18 : decode prog_5_method_7_code 18 = .ok (.iaload, 1) := by decide +kernel
theorem dT_childOf_19 : decode prog_5_method_7_code 19 = .ok (.ireturn, 1) := by decide +kernel
def FT_childOf (h0 : Hp) (a0 : Nat) (p1 : Int32) (p2 : Int32) : Option Int32 :=
  jn (fun (y1 : Int32) =>
  some y1)
  (fun (j2 : Int32 → Option Int32) =>
  if p2 = 0 then
    (gR h0 a0 3 5 (fun a5 =>
    ldI h0 a5 0 p1 (fun x6 =>
    j2 x6)))
  else
    (gR h0 a0 3 6 (fun a3 =>
    ldI h0 a3 0 p1 (fun x4 =>
    j2 x4))))
set_option maxRecDepth 100000 in
set_option maxHeartbeats 4000000 in
theorem mT_childOf (l : Launch) (h0 : Hp) (z0 : Nat) (a0 : Nat) (p1 : Int32) (p2 : Int32) (r : Int32) (hr : FT_childOf h0 a0 p1 p2 = some r) : vM True l yT_childOf (Cond.code yT_childOf prog_5_method_7_code 3 (some (.int)) :: gW) 0 [.ref a0, .int p1, .int p2] h0 z0 h0 z0 (some (.int r)) 0 0 := by
  refine vM.of (by decide) rfl (Nat.le_of_ble_eq_true rfl) ?_
  intro p e s m args below meth c D dA C hin2
  refine (?_ : vO p l e (vR 0 0 0) s m args below meth c D dA (vA h0 z0) 3 True (fun r : Int32 => MQ below (vQc True h0 z0 D dA h0 z0 (some (.int r))) args s 0 0 (vAr True h0 z0)) 0 0 h0 z0 [(0, .ref a0), (1, .int p1), (2, .int p2)] 0 [] (FT_childOf h0 a0 p1 p2)) r hr
  obtain ⟨Q, hQ⟩ : ∃ Q : Int32 → State → Prop, Q = (fun r : Int32 => MQ below (vQc True h0 z0 D dA h0 z0 (some (.int r))) args s 0 0 (vAr True h0 z0)) := ⟨_, rfl⟩
  rw [← hQ]
  unfold FT_childOf
  refine v_iload_n C dT_childOf_0 rfl 2 rfl ?_
  refine v_jn (fun (j : Int32 → Option Int32) => ∀ (y1 : Int32), vO p l e (vR 0 0 0) s m args below meth c D dA (vA h0 z0) 3 True Q 0 0 h0 z0 [] 19 [.int y1] (j y1)) ?_ (fun j2 Hj2 => ?_)
  · intro y1
    exact v_iret C dT_childOf_19 (by rw [hQ])
  · refine v_if_ne (tgt := 13) C dT_childOf_1 (by decide) ?_ ?_
    · refine v_aload_n C dT_childOf_13 rfl 0 rfl ?_
      refine v_getR C v_cl3 (by decide) in_3 rfl w_164 dT_childOf_14 (fun a3 => ?_)
      refine v_iload_n C dT_childOf_17 rfl 1 rfl ?_
      refine v_iald C rfl dT_childOf_18 (fun x4 => ?_)
      refine v_lv (lv' := []) [] rfl ?_
      exact Hj2 x4
    · refine v_aload_n C dT_childOf_4 rfl 0 rfl ?_
      refine v_getR C v_cl3 (by decide) in_3 rfl w_162 dT_childOf_5 (fun a5 => ?_)
      refine v_iload_n C dT_childOf_8 rfl 1 rfl ?_
      refine v_iald C rfl dT_childOf_9 (fun x6 => ?_)
      refine v_goto (tgt := 19) C dT_childOf_10 (by decide) ?_
      refine v_lv (lv' := []) [] rfl ?_
      exact Hj2 x6
theorem dA_readBit_0 : decode prog_1_method_31_code 0 = .ok (.aload_n 0, 1) := by decide +kernel
theorem dA_readBit_1 : decode prog_1_method_31_code 1 = .ok (.getfield 15, 3) := by decide +kernel
theorem dA_readBit_4 : decode prog_1_method_31_code 4 = .ok (.iload_n 1, 1) := by decide +kernel
theorem dA_readBit_5 : decode prog_1_method_31_code 5 = .ok (.aaload, 1) := by decide +kernel
theorem dA_readBit_6 : decode prog_1_method_31_code 6 = .ok (.astore_n 3, 1) := by decide +kernel
theorem dA_readBit_7 : decode prog_1_method_31_code 7 = .ok (.aload_n 0, 1) := by decide +kernel
theorem dA_readBit_8 : decode prog_1_method_31_code 8 = .ok (.getfield 42, 3) := by decide +kernel
theorem dA_readBit_11 : decode prog_1_method_31_code 11 = .ok (.iload_n 1, 1) := by decide +kernel
theorem dA_readBit_12 : decode prog_1_method_31_code 12 = .ok (.invokevirtual 197, 3) := by decide +kernel
theorem dA_readBit_15 : decode prog_1_method_31_code 15 = .ok (.aload_n 3, 1) := by decide +kernel
theorem dA_readBit_16 : decode prog_1_method_31_code 16 = .ok (.getfield 161, 3) := by decide +kernel
theorem dA_readBit_19 : decode prog_1_method_31_code 19 = .ok (.aload_n 0, 1) := by decide +kernel
theorem dA_readBit_20 : decode prog_1_method_31_code 20 = .ok (.getfield 42, 3) := by decide +kernel
theorem dA_readBit_23 : decode prog_1_method_31_code 23 = .ok (.getfield 200, 3) := by decide +kernel
theorem dA_readBit_26 : decode prog_1_method_31_code 26 = .ok (.iaload, 1) := by decide +kernel
theorem dA_readBit_27 : decode prog_1_method_31_code 27 = .ok (.bipush (-2), 2) := by decide +kernel
theorem dA_readBit_29 : decode prog_1_method_31_code 29 = .ok (.if_icmp .ne 10, 3) := by decide +kernel
theorem dA_readBit_32 : decode prog_1_method_31_code 32 = .ok (.aload_n 0, 1) := by decide +kernel
theorem dA_readBit_33 : decode prog_1_method_31_code 33 = .ok (.aload_n 3, 1) := by decide +kernel
theorem dA_readBit_34 : decode prog_1_method_31_code 34 = .ok (.iload_n 2, 1) := by decide +kernel
theorem dA_readBit_35 : decode prog_1_method_31_code 35 = .ok (.invokevirtual 203, 3) := by decide +kernel
theorem dA_readBit_38 : decode prog_1_method_31_code 38 = .ok (.ireturn, 1) := by decide +kernel
theorem dA_readBit_39 : decode prog_1_method_31_code 39 = .ok (.aload_n 0, 1) := by decide +kernel
theorem dA_readBit_40 : decode prog_1_method_31_code 40 = .ok (.getfield 42, 3) := by decide +kernel
theorem dA_readBit_43 : decode prog_1_method_31_code 43 = .ok (.aload_n 3, 1) := by decide +kernel
theorem dA_readBit_44 : decode prog_1_method_31_code 44 = .ok (.aload_n 0, 1) := by decide +kernel
theorem dA_readBit_45 : decode prog_1_method_31_code 45 = .ok (.getfield 42, 3) := by decide +kernel
theorem dA_readBit_48 : decode prog_1_method_31_code 48 = .ok (.getfield 200, 3) := by decide +kernel
theorem dA_readBit_51 : decode prog_1_method_31_code 51 = .ok (.iload_n 2, 1) := by decide +kernel
theorem dA_readBit_52 : decode prog_1_method_31_code 52 = .ok (.invokevirtual 207, 3) := by decide +kernel
theorem dA_readBit_55 : decode prog_1_method_31_code 55 = .ok (.putfield 200, 3) := by decide +kernel
theorem dA_readBit_58 : decode prog_1_method_31_code 58 = .ok (.aload_n 3, 1) := by decide +kernel
theorem dA_readBit_59 : decode prog_1_method_31_code 59 = .ok (.getfield 161, 3) := by decide +kernel
theorem dA_readBit_62 : decode prog_1_method_31_code 62 = .ok (.aload_n 0, 1) := by decide +kernel
theorem dA_readBit_63 : decode prog_1_method_31_code 63 = .ok (.getfield 42, 3) := by decide +kernel
theorem dA_readBit_66 : decode prog_1_method_31_code 66 = .ok (.getfield 200, 3) := by decide +kernel
theorem dA_readBit_69 : decode prog_1_method_31_code 69 = .ok (.iaload, 1) := by decide +kernel
theorem dA_readBit_70 : decode prog_1_method_31_code 70 = .ok (.istore 4, 2) := by decide +kernel
theorem dA_readBit_72 : decode prog_1_method_31_code 72 = .ok (.iload 4, 2) := by decide +kernel
theorem dA_readBit_74 : decode prog_1_method_31_code 74 = .ok (.ifCond .ge 5, 3) := by decide +kernel
theorem dA_readBit_77 : decode prog_1_method_31_code 77 = .ok (.iconst (-1), 1) := by decide +kernel
theorem dA_readBit_78 : decode prog_1_method_31_code 78 = .ok (.ireturn, 1) := by decide +kernel
theorem dA_readBit_79 : decode prog_1_method_31_code 79 = .ok (.aload_n 0, 1) := by decide +kernel
theorem dA_readBit_80 : decode prog_1_method_31_code 80 = .ok (.getfield 42, 3) := by decide +kernel
theorem dA_readBit_83 : decode prog_1_method_31_code 83 = .ok (.invokevirtual 114, 3) := by decide +kernel
theorem dA_readBit_86 : decode prog_1_method_31_code 86 = .ok (.aload_n 3, 1) := by decide +kernel
theorem dA_readBit_87 : decode prog_1_method_31_code 87 = .ok (.iload 4, 2) := by decide +kernel
theorem dA_readBit_89 : decode prog_1_method_31_code 89 = .ok (.aload_n 0, 1) := by decide +kernel
theorem dA_readBit_90 : decode prog_1_method_31_code 90 = .ok (.getfield 36, 3) := by decide +kernel
theorem dA_readBit_93 : decode prog_1_method_31_code 93 = .ok (.invokevirtual 110, 3) := by decide +kernel
theorem dA_readBit_96 : decode prog_1_method_31_code 96 = .ok (.iload 4, 2) := by decide +kernel
theorem dA_readBit_98 : decode prog_1_method_31_code 98 = .ok (.ireturn, 1) := by decide +kernel
def FA_readBit (h0 : Hp) (a0 : Nat) (p1 : Int32) (p2 : Int32) : Option (Hp × Int32) :=
  gR h0 a0 4 3 (fun a1 =>
  ldQ h0 a1 3 p1 (fun a2 =>
  gR h0 a0 4 11 (fun a3 =>
  gd (isO h0 a3 2 = true) ((FR_enterCodeOf h0 a3 p1).bind (fun r5 =>
  gR r5 a2 3 3 (fun a6 =>
  gR r5 a0 4 11 (fun a7 =>
  gI r5 a7 2 1 (fun x8 =>
  ldI r5 a6 0 x8 (fun x9 =>
  if x9 = (-2) then
    (gd (isO r5 a0 4 = true) ((FA_readNumberBit r5 a0 a2 p2).bind (fun r27 =>
    some (r27.1, r27.2))))
  else
    (gR r5 a0 4 11 (fun a10 =>
    gR r5 a0 4 11 (fun a11 =>
    gI r5 a11 2 1 (fun x12 =>
    gd (isO r5 a2 3 = true) ((FT_childOf r5 a2 x12 p2).bind (fun r14 =>
    pF r5 a10 2 1 (.int r14) (fun h15 =>
    gR h15 a2 3 3 (fun a16 =>
    gR h15 a0 4 11 (fun a17 =>
    gI h15 a17 2 1 (fun x18 =>
    ldI h15 a16 0 x18 (fun x19 =>
    if 0 ≤ x19 then
      (gR h15 a0 4 11 (fun a20 =>
      gd (isO h15 a20 2 = true) ((FR_begin h15 a20).bind (fun r22 =>
      gI r22 a0 4 9 (fun x23 =>
      gd (isO r22 a2 3 = true) ((FT_stepBy r22 a2 x19 x23).bind (fun r25 =>
      some (r25, x19))))))))
    else
      (some (h15, (-1)))))))))))))))))))))))
set_option maxRecDepth 100000 in
set_option maxHeartbeats 4000000 in
theorem mA_readBit (l : Launch) (h0 : Hp) (z0 : Nat) (a0 : Nat) (p1 : Int32) (p2 : Int32) (r : (Hp × Int32)) (hr : FA_readBit h0 a0 p1 p2 = some r) : vM False l yA_readBit (Cond.code yA_readBit prog_1_method_31_code 5 (some (.int)) :: gW) 6 [.ref a0, .int p1, .int p2] h0 z0 r.1 z0 (some (.int r.2)) 0 0 := by
  refine vM.of (by decide) rfl (Nat.le_of_ble_eq_true rfl) ?_
  intro p e s m args below meth c D dA C hin2
  refine (?_ : vO p l e (vR 6 0 0) s m args below meth c D dA (vA h0 z0) 5 False (fun r : (Hp × Int32) => MQ below (vQc False h0 z0 D dA r.1 z0 (some (.int r.2))) args s 0 0 (vAr False h0 z0)) 0 0 h0 z0 [(0, .ref a0), (1, .int p1), (2, .int p2)] 0 [] (FA_readBit h0 a0 p1 p2)) r hr
  obtain ⟨Q, hQ⟩ : ∃ Q : (Hp × Int32) → State → Prop, Q = (fun r : (Hp × Int32) => MQ below (vQc False h0 z0 D dA r.1 z0 (some (.int r.2))) args s 0 0 (vAr False h0 z0)) := ⟨_, rfl⟩
  rw [← hQ]
  unfold FA_readBit
  refine v_aload_n C dA_readBit_0 rfl 0 rfl ?_
  refine v_getR C v_cl4 (by decide) in_4 rfl w_203 dA_readBit_1 (fun a1 => ?_)
  refine v_iload_n C dA_readBit_4 rfl 1 rfl ?_
  refine v_aald C rfl dA_readBit_5 (fun a2 => ?_)
  refine v_astore_n (lv' := [(0, .ref a0), (1, .int p1), (2, .int p2), (3, .ref a2)]) C dA_readBit_6 rfl (by decide) [1, 2, 3, 0] rfl ?_
  refine v_aload_n C dA_readBit_7 rfl 0 rfl ?_
  refine v_getR C v_cl4 (by decide) in_4 rfl w_211 dA_readBit_8 (fun a3 => ?_)
  refine v_iload_n C dA_readBit_11 rfl 1 rfl ?_
  refine v_gd fun hO4 => ?_
  refine v_bind fun r5 hr5 => ?_
  refine v_callV0 (N := 1) (As := [.int p1]) (st := []) C (fun f => f.elim) (mR_enterCodeOf l h0 z0 a3 p1 r5 hr5) rfl w_383 w_46 (by decide +kernel) ⟨Nat.le_of_ble_eq_true rfl, Nat.le_of_ble_eq_true rfl⟩ rfl rfl (Nat.le_of_ble_eq_true rfl) ⟨Nat.zero_le _, Nat.zero_le _⟩ w_380 w_381 w_382 v_cl2 rfl hO4 dA_readBit_12 ?_
  refine v_aload_n C dA_readBit_15 rfl 3 rfl ?_
  refine v_getRN C v_cl3 (by decide) in_3 rfl (nf_6 C.2.2.2.2.2.2.2.2.2) dA_readBit_16 (fun a6 => ?_)
  refine v_aload_n C dA_readBit_19 rfl 0 rfl ?_
  refine v_getR C v_cl4 (by decide) in_4 rfl w_211 dA_readBit_20 (fun a7 => ?_)
  refine v_getIN C v_cl2 (by decide) in_2 rfl (nf_10 C.2.2.2.2.2.2.2.2.2) dA_readBit_23 (fun x8 => ?_)
  refine v_iald C rfl dA_readBit_26 (fun x9 => ?_)
  refine v_bipush (v := (-2)) C dA_readBit_27 (by decide) ?_
  refine v_icmp_ne (tgt := 39) C dA_readBit_29 (by decide) ?_ ?_
  · refine v_aload_n C dA_readBit_39 rfl 0 rfl ?_
    refine v_getR C v_cl4 (by decide) in_4 rfl w_211 dA_readBit_40 (fun a10 => ?_)
    refine v_aload_n C dA_readBit_43 rfl 3 rfl ?_
    refine v_aload_n C dA_readBit_44 rfl 0 rfl ?_
    refine v_getR C v_cl4 (by decide) in_4 rfl w_211 dA_readBit_45 (fun a11 => ?_)
    refine v_getIN C v_cl2 (by decide) in_2 rfl (nf_10 C.2.2.2.2.2.2.2.2.2) dA_readBit_48 (fun x12 => ?_)
    refine v_iload_n C dA_readBit_51 rfl 2 rfl ?_
    refine v_gd fun hO13 => ?_
    refine v_bind fun r14 hr14 => ?_
    refine v_callV0 (N := 2) (As := [.int x12, .int p2]) (st := [.ref a10]) C (fun _ => trivial) (mT_childOf l r5 z0 a2 x12 p2 r14 hr14) rfl w_391 w_50 (by decide +kernel) ⟨Nat.le_of_ble_eq_true rfl, Nat.le_of_ble_eq_true rfl⟩ rfl rfl (Nat.le_of_ble_eq_true rfl) ⟨Nat.zero_le _, Nat.zero_le _⟩ w_388 w_389 w_390 v_cl3 rfl hO13 dA_readBit_52 ?_
    refine v_putN C v_cl2 (by decide) in_2 ty_2 ty_2_ok nm_2 rfl (nf_10 C.2.2.2.2.2.2.2.2.2) rfl (ty := .int) (by decide +kernel) rfl rfl dA_readBit_55 (fun h15 => ?_)
    refine v_aload_n C dA_readBit_58 rfl 3 rfl ?_
    refine v_getRN C v_cl3 (by decide) in_3 rfl (nf_6 C.2.2.2.2.2.2.2.2.2) dA_readBit_59 (fun a16 => ?_)
    refine v_aload_n C dA_readBit_62 rfl 0 rfl ?_
    refine v_getR C v_cl4 (by decide) in_4 rfl w_211 dA_readBit_63 (fun a17 => ?_)
    refine v_getIN C v_cl2 (by decide) in_2 rfl (nf_10 C.2.2.2.2.2.2.2.2.2) dA_readBit_66 (fun x18 => ?_)
    refine v_iald C rfl dA_readBit_69 (fun x19 => ?_)
    refine v_istore (lv' := [(0, .ref a0), (3, .ref a2), (4, .int x19)]) C dA_readBit_70 (by decide) [1, 4, 0] rfl ?_
    refine v_iload C dA_readBit_72 2 rfl ?_
    refine v_if_ge (tgt := 79) C dA_readBit_74 (by decide) ?_ ?_
    · refine v_aload_n C dA_readBit_79 rfl 0 rfl ?_
      refine v_getR C v_cl4 (by decide) in_4 rfl w_211 dA_readBit_80 (fun a20 => ?_)
      refine v_gd fun hO21 => ?_
      refine v_bind fun r22 hr22 => ?_
      refine v_callV0 (N := 0) (As := []) (st := []) C (fun f => f.elim) (mR_begin l h15 z0 a20 r22 hr22) rfl w_259 w_46 (by decide +kernel) ⟨Nat.le_of_ble_eq_true rfl, Nat.le_of_ble_eq_true rfl⟩ rfl rfl (Nat.le_of_ble_eq_true rfl) ⟨Nat.zero_le _, Nat.zero_le _⟩ w_367 w_257 w_258 v_cl2 rfl hO21 dA_readBit_83 ?_
      refine v_aload_n C dA_readBit_86 rfl 1 rfl ?_
      refine v_iload C dA_readBit_87 2 rfl ?_
      refine v_aload_n C dA_readBit_89 rfl 0 rfl ?_
      refine v_getI C v_cl4 (by decide) in_4 rfl w_209 dA_readBit_90 (fun x23 => ?_)
      refine v_gd fun hO24 => ?_
      refine v_bind fun r25 hr25 => ?_
      refine v_callV0 (N := 2) (As := [.int x19, .int x23]) (st := []) C (fun f => f.elim) (mT_stepBy l r22 z0 a2 x19 x23 r25 hr25) rfl w_305 w_50 (by decide +kernel) ⟨Nat.le_of_ble_eq_true rfl, Nat.le_of_ble_eq_true rfl⟩ rfl rfl (Nat.le_of_ble_eq_true rfl) ⟨Nat.zero_le _, Nat.zero_le _⟩ w_302 w_303 w_304 v_cl3 rfl hO24 dA_readBit_93 ?_
      refine v_iload C dA_readBit_96 2 rfl ?_
      exact v_iret C dA_readBit_98 (by rw [hQ])
    · refine v_iconst (v := (-1)) C dA_readBit_77 (by decide) ?_
      exact v_iret C dA_readBit_78 (by rw [hQ])
  · refine v_aload_n C dA_readBit_32 rfl 0 rfl ?_
    refine v_aload_n C dA_readBit_33 rfl 3 rfl ?_
    refine v_iload_n C dA_readBit_34 rfl 2 rfl ?_
    refine v_gd fun hO26 => ?_
    refine v_bind fun r27 hr27 => ?_
    refine v_callV0 (N := 2) (As := [.ref a2, .int p2]) (st := []) C (fun f => f.elim) (mA_readNumberBit l r5 z0 a0 a2 p2 r27 hr27) rfl w_387 w_45 (by decide +kernel) ⟨Nat.le_of_ble_eq_true rfl, Nat.le_of_ble_eq_true rfl⟩ rfl rfl (Nat.le_of_ble_eq_true rfl) ⟨Nat.zero_le _, Nat.zero_le _⟩ w_384 w_386 w_16 v_cl4 rfl hO26 dA_readBit_35 ?_
    exact v_iret C dA_readBit_38 (by rw [hQ])
theorem dA_get_0 : decode prog_1_method_8_code 0 = .ok (.iload_n 1, 1) := by decide +kernel
theorem dA_get_1 : decode prog_1_method_8_code 1 = .ok (.invokestatic 83, 3) := by decide +kernel
theorem dA_get_4 : decode prog_1_method_8_code 4 = .ok (.ifCond .ne 6, 3) := by decide +kernel
theorem dA_get_7 : decode prog_1_method_8_code 7 = .ok (.bipush (-2), 2) := by decide +kernel
theorem dA_get_9 : decode prog_1_method_8_code 9 = .ok (.ireturn, 1) := by decide +kernel
theorem dA_get_10 : decode prog_1_method_8_code 10 = .ok (.aload_n 0, 1) := by decide +kernel
theorem dA_get_11 : decode prog_1_method_8_code 11 = .ok (.getfield 42, 3) := by decide +kernel
theorem dA_get_14 : decode prog_1_method_8_code 14 = .ok (.iload_n 1, 1) := by decide +kernel
theorem dA_get_15 : decode prog_1_method_8_code 15 = .ok (.invokevirtual 117, 3) := by decide +kernel
theorem dA_get_18 : decode prog_1_method_8_code 18 = .ok (.ifCond .eq 6, 3) := by decide +kernel
theorem dA_get_21 : decode prog_1_method_8_code 21 = .ok (.bipush (-4), 2) := by decide +kernel
theorem dA_get_23 : decode prog_1_method_8_code 23 = .ok (.ireturn, 1) := by decide +kernel
theorem dA_get_24 : decode prog_1_method_8_code 24 = .ok (.aload_n 0, 1) := by decide +kernel
theorem dA_get_25 : decode prog_1_method_8_code 25 = .ok (.iload_n 1, 1) := by decide +kernel
theorem dA_get_26 : decode prog_1_method_8_code 26 = .ok (.iload_n 2, 1) := by decide +kernel
theorem dA_get_27 : decode prog_1_method_8_code 27 = .ok (.ifCond .eq 7, 3) := by decide +kernel
theorem dA_get_30 : decode prog_1_method_8_code 30 = .ok (.iconst 1, 1) := by decide +kernel
theorem dA_get_31 : decode prog_1_method_8_code 31 = .ok (.goto 4, 3) := by decide +kernel
theorem dA_get_34 : decode prog_1_method_8_code 34 = .ok (.iconst 0, 1) := by decide +kernel
theorem dA_get_35 : decode prog_1_method_8_code 35 = .ok (.invokevirtual 120, 3) := by decide +kernel
theorem dA_get_38 : decode prog_1_method_8_code 38 = .ok (.ireturn, 1) := by decide +kernel
def FA_get (h0 : Hp) (a0 : Nat) (p1 : Int32) (p2 : Int32) : Option (Hp × Int32) :=
  (FA_isTree h0 p1).bind (fun r1 =>
  if r1 = 0 then
    (some (h0, (-2)))
  else
    (gR h0 a0 4 11 (fun a2 =>
    gd (isO h0 a2 2 = true) ((FR_isInCodeOfOtherThan h0 a2 p1).bind (fun r4 =>
    if r4 = 0 then
      (jn (fun (y5 : Int32) (y6 : Int32) (b7 : Nat) =>
      gd (isO h0 b7 4 = true) ((FA_readBit h0 b7 y6 y5).bind (fun r10 =>
      some (r10.1, r10.2))))
      (fun (j8 : Int32 → Int32 → Nat → Option (Hp × Int32)) =>
      if p2 = 0 then
        (j8 0 p1 a0)
      else
        (j8 1 p1 a0)))
    else
      (some (h0, (-4))))))))
set_option maxRecDepth 100000 in
set_option maxHeartbeats 4000000 in
theorem mA_get (l : Launch) (h0 : Hp) (z0 : Nat) (a0 : Nat) (p1 : Int32) (p2 : Int32) (r : (Hp × Int32)) (hr : FA_get h0 a0 p1 p2 = some r) : vM False l yA_get (Cond.code yA_get prog_1_method_8_code 3 (some (.int)) :: gW) 7 [.ref a0, .int p1, .int p2] h0 z0 r.1 z0 (some (.int r.2)) 0 0 := by
  refine vM.of (by decide) rfl (Nat.le_of_ble_eq_true rfl) ?_
  intro p e s m args below meth c D dA C hin2
  refine (?_ : vO p l e (vR 7 0 0) s m args below meth c D dA (vA h0 z0) 3 False (fun r : (Hp × Int32) => MQ below (vQc False h0 z0 D dA r.1 z0 (some (.int r.2))) args s 0 0 (vAr False h0 z0)) 0 0 h0 z0 [(0, .ref a0), (1, .int p1), (2, .int p2)] 0 [] (FA_get h0 a0 p1 p2)) r hr
  obtain ⟨Q, hQ⟩ : ∃ Q : (Hp × Int32) → State → Prop, Q = (fun r : (Hp × Int32) => MQ below (vQc False h0 z0 D dA r.1 z0 (some (.int r.2))) args s 0 0 (vAr False h0 z0)) := ⟨_, rfl⟩
  rw [← hQ]
  unfold FA_get
  refine v_iload_n C dA_get_0 rfl 1 rfl ?_
  refine v_bind fun r1 hr1 => ?_
  refine v_callS0 (N := 1) (As := [.int p1]) (st := []) C (fun _ => trivial) (mA_isTree l h0 z0 p1 r1 hr1) rfl w_243 w_45 (by decide +kernel) ⟨Nat.le_of_ble_eq_true rfl, Nat.le_of_ble_eq_true rfl⟩ rfl rfl (Nat.le_of_ble_eq_true rfl) ⟨Nat.zero_le _, Nat.zero_le _⟩ w_241 w_242 dA_get_1 ?_
  refine v_if_ne (tgt := 10) C dA_get_4 (by decide) ?_ ?_
  · refine v_aload_n C dA_get_10 rfl 0 rfl ?_
    refine v_getR C v_cl4 (by decide) in_4 rfl w_211 dA_get_11 (fun a2 => ?_)
    refine v_iload_n C dA_get_14 rfl 1 rfl ?_
    refine v_gd fun hO3 => ?_
    refine v_bind fun r4 hr4 => ?_
    refine v_callV0 (N := 1) (As := [.int p1]) (st := []) C (fun _ => trivial) (mR_isInCodeOfOtherThan l h0 z0 a2 p1 r4 hr4) rfl w_375 w_46 (by decide +kernel) ⟨Nat.le_of_ble_eq_true rfl, Nat.le_of_ble_eq_true rfl⟩ rfl rfl (Nat.le_of_ble_eq_true rfl) ⟨Nat.zero_le _, Nat.zero_le _⟩ w_372 w_373 w_374 v_cl2 rfl hO3 dA_get_15 ?_
    refine v_if_eq (tgt := 24) C dA_get_18 (by decide) ?_ ?_
    · refine v_aload_n C dA_get_24 rfl 0 rfl ?_
      refine v_iload_n C dA_get_25 rfl 1 rfl ?_
      refine v_iload_n C dA_get_26 rfl 2 rfl ?_
      refine v_jn (fun (j : Int32 → Int32 → Nat → Option (Hp × Int32)) => ∀ (y5 : Int32), ∀ (y6 : Int32), ∀ (b7 : Nat), vO p l e (vR 7 0 0) s m args below meth c D dA (vA h0 z0) 3 False Q 0 0 h0 z0 [] 35 [.int y5, .int y6, .ref b7] (j y5 y6 b7)) ?_ (fun j8 Hj8 => ?_)
      · intro y5 y6 b7
        refine v_gd fun hO9 => ?_
        refine v_bind fun r10 hr10 => ?_
        refine v_callV0 (N := 2) (As := [.int y6, .int y5]) (st := []) C (fun f => f.elim) (mA_readBit l h0 z0 b7 y6 y5 r10 hr10) rfl w_379 w_45 (by decide +kernel) ⟨Nat.le_of_ble_eq_true rfl, Nat.le_of_ble_eq_true rfl⟩ rfl rfl (Nat.le_of_ble_eq_true rfl) ⟨Nat.zero_le _, Nat.zero_le _⟩ w_376 w_378 w_15 v_cl4 rfl hO9 dA_get_35 ?_
        exact v_iret C dA_get_38 (by rw [hQ])
      · refine v_if_eq (tgt := 34) C dA_get_27 (by decide) ?_ ?_
        · refine v_iconst (v := 0) C dA_get_34 (by decide) ?_
          refine v_lv (lv' := []) [] rfl ?_
          exact Hj8 0 p1 a0
        · refine v_iconst (v := 1) C dA_get_30 (by decide) ?_
          refine v_goto (tgt := 35) C dA_get_31 (by decide) ?_
          refine v_lv (lv' := []) [] rfl ?_
          exact Hj8 1 p1 a0
    · refine v_bipush (v := (-4)) C dA_get_21 (by decide) ?_
      exact v_iret C dA_get_23 (by rw [hQ])
  · refine v_bipush (v := (-2)) C dA_get_7 (by decide) ?_
    exact v_iret C dA_get_9 (by rw [hQ])
theorem dA_pull_0 : decode prog_1_method_9_code 0 = .ok (.iload_n 1, 1) := by decide +kernel
theorem dA_pull_1 : decode prog_1_method_9_code 1 = .ok (.invokestatic 83, 3) := by decide +kernel
theorem dA_pull_4 : decode prog_1_method_9_code 4 = .ok (.ifCond .ne 6, 3) := by decide +kernel
theorem dA_pull_7 : decode prog_1_method_9_code 7 = .ok (.bipush (-2), 2) := by decide +kernel
theorem dA_pull_9 : decode prog_1_method_9_code 9 = .ok (.ireturn, 1) := by decide +kernel
theorem dA_pull_10 : decode prog_1_method_9_code 10 = .ok (.aload_n 0, 1) := by decide +kernel
theorem dA_pull_11 : decode prog_1_method_9_code 11 = .ok (.getfield 42, 3) := by decide +kernel
theorem dA_pull_14 : decode prog_1_method_9_code 14 = .ok (.iload_n 1, 1) := by decide +kernel
theorem dA_pull_15 : decode prog_1_method_9_code 15 = .ok (.invokevirtual 117, 3) := by decide +kernel
theorem dA_pull_18 : decode prog_1_method_9_code 18 = .ok (.ifCond .eq 6, 3) := by decide +kernel
theorem dA_pull_21 : decode prog_1_method_9_code 21 = .ok (.bipush (-4), 2) := by decide +kernel
theorem dA_pull_23 : decode prog_1_method_9_code 23 = .ok (.ireturn, 1) := by decide +kernel
theorem dA_pull_24 : decode prog_1_method_9_code 24 = .ok (.aload_n 0, 1) := by decide +kernel
theorem dA_pull_25 : decode prog_1_method_9_code 25 = .ok (.getfield 33, 3) := by decide +kernel
theorem dA_pull_28 : decode prog_1_method_9_code 28 = .ok (.aload_n 0, 1) := by decide +kernel
theorem dA_pull_29 : decode prog_1_method_9_code 29 = .ok (.getfield 29, 3) := by decide +kernel
theorem dA_pull_32 : decode prog_1_method_9_code 32 = .ok (.if_icmp .ge 40, 3) := by decide +kernel
theorem dA_pull_35 : decode prog_1_method_9_code 35 = .ok (.aload_n 0, 1) := by decide +kernel
theorem dA_pull_36 : decode prog_1_method_9_code 36 = .ok (.getfield 25, 3) := by decide +kernel
theorem dA_pull_39 : decode prog_1_method_9_code 39 = .ok (.aload_n 0, 1) := by decide +kernel
theorem dA_pull_40 : decode prog_1_method_9_code 40 = .ok (.getfield 33, 3) := by decide +kernel
theorem dA_pull_43 : decode prog_1_method_9_code 43 = .ok (.iaload, 1) := by decide +kernel
theorem dA_pull_44 : decode prog_1_method_9_code 44 = .ok (.istore_n 2, 1) := by decide +kernel
theorem dA_pull_45 : decode prog_1_method_9_code 45 = .ok (.aload_n 0, 1) := by decide +kernel
theorem dA_pull_46 : decode prog_1_method_9_code 46 = .ok (.dup, 1) := by decide +kernel
theorem dA_pull_47 : decode prog_1_method_9_code 47 = .ok (.getfield 33, 3) := by decide +kernel
theorem dA_pull_50 : decode prog_1_method_9_code 50 = .ok (.iconst 1, 1) := by decide +kernel
theorem dA_pull_51 : decode prog_1_method_9_code 51 = .ok (.iadd, 1) := by decide +kernel
theorem dA_pull_52 : decode prog_1_method_9_code 52 = .ok (.putfield 33, 3) := by decide +kernel
theorem dA_pull_55 : decode prog_1_method_9_code 55 = .ok (.aload_n 0, 1) := by decide +kernel
theorem dA_pull_56 : decode prog_1_method_9_code 56 = .ok (.iload_n 1, 1) := by decide +kernel
theorem dA_pull_57 : decode prog_1_method_9_code 57 = .ok (.iload_n 2, 1) := by decide +kernel
theorem dA_pull_58 : decode prog_1_method_9_code 58 = .ok (.invokevirtual 120, 3) := by decide +kernel
theorem dA_pull_61 : decode prog_1_method_9_code 61 = .ok (.istore_n 3, 1) := by decide +kernel
theorem dA_pull_62 : decode prog_1_method_9_code 62 = .ok (.iload_n 3, 1) := by decide +kernel
theorem dA_pull_63 : decode prog_1_method_9_code 63 = .ok (.iconst (-1), 1) := by decide +kernel
theorem dA_pull_64 : decode prog_1_method_9_code 64 = .ok (.if_icmp .eq 5, 3) := by decide +kernel
theorem dA_pull_67 : decode prog_1_method_9_code 67 = .ok (.iload_n 3, 1) := by decide +kernel
theorem dA_pull_68 : decode prog_1_method_9_code 68 = .ok (.ireturn, 1) := by decide +kernel
theorem dA_pull_69 : decode prog_1_method_9_code 69 = .ok (.goto (-45), 3) := by decide +kernel
theorem dA_pull_72 : decode prog_1_method_9_code 72 = .ok (.iconst (-1), 1) := by decide +kernel
theorem dA_pull_73 : decode prog_1_method_9_code 73 = .ok (.ireturn, 1) := by decide +kernel
def LA_pull_24 (a0 : Nat) (p1 : Int32) (K6 : Hp → Option (Hp × Int32)) (K9 : Hp → Int32 → Option (Hp × Int32)) (rec11 : Hp → Option (Hp × Int32)) (h10 : Hp) : Option (Hp × Int32) :=
  gI h10 a0 4 8 (fun x12 =>
  gI h10 a0 4 7 (fun x13 =>
  if x13 ≤ x12 then
    (K6 h10)
  else
    (gR h10 a0 4 6 (fun a14 =>
    gI h10 a0 4 8 (fun x15 =>
    ldI h10 a14 0 x15 (fun x16 =>
    gI h10 a0 4 8 (fun x17 =>
    pF h10 a0 4 8 (.int (x17 + 1)) (fun h18 =>
    gd (isO h18 a0 4 = true) ((FA_readBit h18 a0 p1 x16).bind (fun r20 =>
    if r20.2 = (-1) then
      (rec11 r20.1)
    else
      (K9 r20.1 r20.2)))))))))))
def FA_pull (h0 : Hp) (a0 : Nat) (p1 : Int32) : Option (Hp × Int32) :=
  (FA_isTree h0 p1).bind (fun r1 =>
  if r1 = 0 then
    (some (h0, (-2)))
  else
    (gR h0 a0 4 11 (fun a2 =>
    gd (isO h0 a2 2 = true) ((FR_isInCodeOfOtherThan h0 a2 p1).bind (fun r4 =>
    if r4 = 0 then
      (jn (fun (h5 : Hp) =>
      some (h5, (-1)))
      (fun (K6 : Hp → Option (Hp × Int32)) =>
      jn (fun (h7 : Hp) (x8 : Int32) =>
      some (h7, x8))
      (fun (K9 : Hp → Int32 → Option (Hp × Int32)) =>
      lpG (fun _ => none) fu (LA_pull_24 a0 p1 K6 K9) h0)))
    else
      (some (h0, (-4))))))))
set_option maxRecDepth 100000 in
set_option maxHeartbeats 4000000 in
theorem mA_pull (l : Launch) (h0 : Hp) (z0 : Nat) (a0 : Nat) (p1 : Int32) (r : (Hp × Int32)) (hr : FA_pull h0 a0 p1 = some r) : vM False l yA_pull (Cond.code yA_pull prog_1_method_9_code 4 (some (.int)) :: gW) 7 [.ref a0, .int p1] h0 z0 r.1 z0 (some (.int r.2)) 0 0 := by
  refine vM.of (by decide) rfl (Nat.le_of_ble_eq_true rfl) ?_
  intro p e s m args below meth c D dA C hin2
  refine (?_ : vO p l e (vR 7 0 0) s m args below meth c D dA (vA h0 z0) 4 False (fun r : (Hp × Int32) => MQ below (vQc False h0 z0 D dA r.1 z0 (some (.int r.2))) args s 0 0 (vAr False h0 z0)) 0 0 h0 z0 [(0, .ref a0), (1, .int p1)] 0 [] (FA_pull h0 a0 p1)) r hr
  obtain ⟨Q, hQ⟩ : ∃ Q : (Hp × Int32) → State → Prop, Q = (fun r : (Hp × Int32) => MQ below (vQc False h0 z0 D dA r.1 z0 (some (.int r.2))) args s 0 0 (vAr False h0 z0)) := ⟨_, rfl⟩
  rw [← hQ]
  unfold FA_pull
  refine v_iload_n C dA_pull_0 rfl 1 rfl ?_
  refine v_bind fun r1 hr1 => ?_
  refine v_callS0 (N := 1) (As := [.int p1]) (st := []) C (fun _ => trivial) (mA_isTree l h0 z0 p1 r1 hr1) rfl w_243 w_45 (by decide +kernel) ⟨Nat.le_of_ble_eq_true rfl, Nat.le_of_ble_eq_true rfl⟩ rfl rfl (Nat.le_of_ble_eq_true rfl) ⟨Nat.zero_le _, Nat.zero_le _⟩ w_241 w_242 dA_pull_1 ?_
  refine v_if_ne (tgt := 10) C dA_pull_4 (by decide) ?_ ?_
  · refine v_aload_n C dA_pull_10 rfl 0 rfl ?_
    refine v_getR C v_cl4 (by decide) in_4 rfl w_211 dA_pull_11 (fun a2 => ?_)
    refine v_iload_n C dA_pull_14 rfl 1 rfl ?_
    refine v_gd fun hO3 => ?_
    refine v_bind fun r4 hr4 => ?_
    refine v_callV0 (N := 1) (As := [.int p1]) (st := []) C (fun _ => trivial) (mR_isInCodeOfOtherThan l h0 z0 a2 p1 r4 hr4) rfl w_375 w_46 (by decide +kernel) ⟨Nat.le_of_ble_eq_true rfl, Nat.le_of_ble_eq_true rfl⟩ rfl rfl (Nat.le_of_ble_eq_true rfl) ⟨Nat.zero_le _, Nat.zero_le _⟩ w_372 w_373 w_374 v_cl2 rfl hO3 dA_pull_15 ?_
    refine v_if_eq (tgt := 24) C dA_pull_18 (by decide) ?_ ?_
    · refine v_jn (fun (j : Hp → Option (Hp × Int32)) => ∀ (h5 : Hp), vO p l e (vR 7 0 0) s m args below meth c D dA (vA h0 z0) 4 False Q 0 0 h5 z0 [] 72 [] (j h5)) ?_ (fun K6 HK6 => ?_)
      · intro h5
        refine v_iconst (v := (-1)) C dA_pull_72 (by decide) ?_
        exact v_iret C dA_pull_73 (by rw [hQ])
      · refine v_jn (fun (j : Hp → Int32 → Option (Hp × Int32)) => ∀ (h7 : Hp), ∀ (x8 : Int32), vO p l e (vR 7 0 0) s m args below meth c D dA (vA h0 z0) 4 False Q 0 0 h7 z0 [(3, .int x8)] 67 [] (j h7 x8)) ?_ (fun K9 HK9 => ?_)
        · intro h7 x8
          refine v_iload_n C dA_pull_67 rfl 0 rfl ?_
          exact v_iret C dA_pull_68 (by rw [hQ])
        · refine lpG_ind (bot := (fun _ => none)) (B := LA_pull_24 a0 p1 K6 K9) (fun (r : Hp → Option (Hp × Int32)) => ∀ (h10 : Hp), vO p l e (vR 7 0 0) s m args below meth c D dA (vA h0 z0) 4 False Q 0 0 h10 z0 [(0, .ref a0), (1, .int p1)] 24 [] (r h10)) ?_ ?_ fu h0
          · intro h10
            exact v_none
          · intro rec11 Hrec11 h10
            unfold LA_pull_24
            refine v_aload_n C dA_pull_24 rfl 0 rfl ?_
            refine v_getI C v_cl4 (by decide) in_4 rfl w_208 dA_pull_25 (fun x12 => ?_)
            refine v_aload_n C dA_pull_28 rfl 0 rfl ?_
            refine v_getI C v_cl4 (by decide) in_4 rfl w_207 dA_pull_29 (fun x13 => ?_)
            refine v_icmp_ge (tgt := 72) C dA_pull_32 (by decide) ?_ ?_
            · refine v_lv (lv' := []) [] rfl ?_
              exact HK6 h10
            · refine v_aload_n C dA_pull_35 rfl 0 rfl ?_
              refine v_getR C v_cl4 (by decide) in_4 rfl w_206 dA_pull_36 (fun a14 => ?_)
              refine v_aload_n C dA_pull_39 rfl 0 rfl ?_
              refine v_getI C v_cl4 (by decide) in_4 rfl w_208 dA_pull_40 (fun x15 => ?_)
              refine v_iald C rfl dA_pull_43 (fun x16 => ?_)
              refine v_istore_n (lv' := [(0, .ref a0), (1, .int p1), (2, .int x16)]) C dA_pull_44 rfl (by decide) [1, 2, 0] rfl ?_
              refine v_aload_n C dA_pull_45 rfl 0 rfl ?_
              refine v_dup C dA_pull_46 rfl ?_
              refine v_getI C v_cl4 (by decide) in_4 rfl w_208 dA_pull_47 (fun x17 => ?_)
              refine v_iconst (v := 1) C dA_pull_50 (by decide) ?_
              refine v_iadd C dA_pull_51 ?_
              refine v_put C v_cl4 (by decide) in_4 ty_4 ty_4_ok nm_4 rfl w_208 rfl (ty := .int) (by decide +kernel) rfl rfl dA_pull_52 (fun h18 => ?_)
              refine v_aload_n C dA_pull_55 rfl 0 rfl ?_
              refine v_iload_n C dA_pull_56 rfl 1 rfl ?_
              refine v_iload_n C dA_pull_57 rfl 2 rfl ?_
              refine v_gd fun hO19 => ?_
              refine v_bind fun r20 hr20 => ?_
              refine v_callV0 (N := 2) (As := [.int p1, .int x16]) (st := []) C (fun f => f.elim) (mA_readBit l h18 z0 a0 p1 x16 r20 hr20) rfl w_379 w_45 (by decide +kernel) ⟨Nat.le_of_ble_eq_true rfl, Nat.le_of_ble_eq_true rfl⟩ rfl rfl (Nat.le_of_ble_eq_true rfl) ⟨Nat.zero_le _, Nat.zero_le _⟩ w_376 w_378 w_15 v_cl4 rfl hO19 dA_pull_58 ?_
              refine v_istore_n (lv' := [(0, .ref a0), (1, .int p1), (3, .int r20.2)]) C dA_pull_61 rfl (by decide) [1, 2, 0] rfl ?_
              refine v_iload_n C dA_pull_62 rfl 2 rfl ?_
              refine v_iconst (v := (-1)) C dA_pull_63 (by decide) ?_
              refine v_icmp_eq (tgt := 69) C dA_pull_64 (by decide) ?_ ?_
              · refine v_goto (tgt := 24) C dA_pull_69 (by decide) ?_
                refine v_lv (lv' := [(0, .ref a0), (1, .int p1)]) [0, 1] rfl ?_
                exact Hrec11 r20.1
              · refine v_lv (lv' := [(3, .int r20.2)]) [2] rfl ?_
                exact HK9 r20.1 r20.2
    · refine v_bipush (v := (-4)) C dA_pull_21 (by decide) ?_
      exact v_iret C dA_pull_23 (by rw [hQ])
  · refine v_bipush (v := (-2)) C dA_pull_7 (by decide) ?_
    exact v_iret C dA_pull_9 (by rw [hQ])
