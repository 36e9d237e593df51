theorem dR_isInCodeOfOtherThan_0 : decode prog_4_method_5_code 0 = .ok (.aload_n 0, 1) := by decide +kernel
theorem dR_isInCodeOfOtherThan_1 : decode prog_4_method_5_code 1 = .ok (.getfield 9, 3) := by decide +kernel
theorem dR_isInCodeOfOtherThan_4 : decode prog_4_method_5_code 4 = .ok (.iconst (-1), 1) := by decide +kernel
theorem dR_isInCodeOfOtherThan_5 : decode prog_4_method_5_code 5 = .ok (.if_icmp .eq 15, 3) := by decide +kernel
theorem dR_isInCodeOfOtherThan_8 : decode prog_4_method_5_code 8 = .ok (.aload_n 0, 1) := by decide +kernel
theorem dR_isInCodeOfOtherThan_9 : decode prog_4_method_5_code 9 = .ok (.getfield 9, 3) := by decide +kernel
theorem dR_isInCodeOfOtherThan_12 : decode prog_4_method_5_code 12 = .ok (.iload_n 1, 1) := by decide +kernel
theorem dR_isInCodeOfOtherThan_13 : decode prog_4_method_5_code 13 = .ok (.if_icmp .eq 7, 3) := by decide +kernel
theorem dR_isInCodeOfOtherThan_16 : decode prog_4_method_5_code 16 = .ok (.iconst 1, 1) := by decide +kernel
theorem dR_isInCodeOfOtherThan_17 : decode prog_4_method_5_code 17 = .ok (.goto 4, 3) := by decide +kernel
theorem dR_isInCodeOfOtherThan_20 : decode prog_4_method_5_code 20 = .ok (.iconst 0, 1) := by decide +kernel
theorem dR_isInCodeOfOtherThan_21 : decode prog_4_method_5_code 21 = .ok (.ireturn, 1) := by decide +kernel
def FR_isInCodeOfOtherThan (h0 : Hp) (a0 : Nat) (p1 : Int32) : Option Int32 :=
  gI h0 a0 2 0 (fun x1 =>
  jn (fun (y2 : Int32) =>
  gd (y2 = 0 ∨ y2 = 1) (some y2))
  (fun (j3 : Int32 → Option Int32) =>
  jn (j3 0)
  (fun (j4 : Option Int32) =>
  if x1 = (-1) then
    (j4)
  else
    (gI h0 a0 2 0 (fun x5 =>
    if x5 = p1 then
      (j4)
    else
      (j3 1))))))
set_option maxRecDepth 100000 in
set_option maxHeartbeats 4000000 in
theorem mR_isInCodeOfOtherThan (l : Launch) (h0 : Hp) (z0 : Nat) (a0 : Nat) (p1 : Int32) (r : Int32) (hr : FR_isInCodeOfOtherThan h0 a0 p1 = some r) : vM True l yR_isInCodeOfOtherThan (Cond.code yR_isInCodeOfOtherThan prog_4_method_5_code 2 (some (.boolean)) :: gW) 0 [.ref a0, .int p1] h0 z0 h0 z0 (some (.int r)) 0 0 := by
  refine vM.of (by decide) rfl (Nat.le_of_ble_eq_true rfl) ?_
  intro p e s m args below meth c D dA C hin2
  refine (?_ : vO p l e (vR 0 0 0) s m args below meth c D dA (vA h0 z0) 2 True (fun r : Int32 => MQ below (vQc True h0 z0 D dA h0 z0 (some (.int r))) args s 0 0 (vAr True h0 z0)) 0 0 h0 z0 [(0, .ref a0), (1, .int p1)] 0 [] (FR_isInCodeOfOtherThan h0 a0 p1)) r hr
  obtain ⟨Q, hQ⟩ : ∃ Q : Int32 → State → Prop, Q = (fun r : Int32 => MQ below (vQc True h0 z0 D dA h0 z0 (some (.int r))) args s 0 0 (vAr True h0 z0)) := ⟨_, rfl⟩
  rw [← hQ]
  unfold FR_isInCodeOfOtherThan
  refine v_aload_n C dR_isInCodeOfOtherThan_0 rfl 0 rfl ?_
  refine v_getI C v_cl2 (by decide) in_2 rfl w_75 dR_isInCodeOfOtherThan_1 (fun x1 => ?_)
  refine v_iconst (v := (-1)) C dR_isInCodeOfOtherThan_4 (by decide) ?_
  refine v_jn (fun (j : Int32 → Option Int32) => ∀ (y2 : Int32), vO p l e (vR 0 0 0) s m args below meth c D dA (vA h0 z0) 2 True Q 0 0 h0 z0 [] 21 [.int y2] (j y2)) ?_ (fun j3 Hj3 => ?_)
  · intro y2
    exact v_zret C dR_isInCodeOfOtherThan_21 (by rw [hQ])
  · refine v_jn (fun (j : Option Int32) => vO p l e (vR 0 0 0) s m args below meth c D dA (vA h0 z0) 2 True Q 0 0 h0 z0 [] 20 [] j) ?_ (fun j4 Hj4 => ?_)
    · refine v_iconst (v := 0) C dR_isInCodeOfOtherThan_20 (by decide) ?_
      exact Hj3 0
    · refine v_icmp_eq (tgt := 20) C dR_isInCodeOfOtherThan_5 (by decide) ?_ ?_
      · refine v_lv (lv' := []) [] rfl ?_
        exact Hj4
      · refine v_aload_n C dR_isInCodeOfOtherThan_8 rfl 0 rfl ?_
        refine v_getI C v_cl2 (by decide) in_2 rfl w_75 dR_isInCodeOfOtherThan_9 (fun x5 => ?_)
        refine v_iload_n C dR_isInCodeOfOtherThan_12 rfl 1 rfl ?_
        refine v_icmp_eq (tgt := 20) C dR_isInCodeOfOtherThan_13 (by decide) ?_ ?_
        · refine v_lv (lv' := []) [] rfl ?_
          exact Hj4
        · refine v_iconst (v := 1) C dR_isInCodeOfOtherThan_16 (by decide) ?_
          refine v_goto (tgt := 21) C dR_isInCodeOfOtherThan_17 (by decide) ?_
          refine v_lv (lv' := []) [] rfl ?_
          exact Hj3 1
theorem dR_enterCodeOf_0 : decode prog_4_method_3_code 0 = .ok (.aload_n 0, 1) := by decide +kernel
theorem dR_enterCodeOf_1 : decode prog_4_method_3_code 1 = .ok (.iload_n 1, 1) := by decide +kernel
theorem dR_enterCodeOf_2 : decode prog_4_method_3_code 2 = .ok (.putfield 9, 3) := by decide +kernel
theorem dR_enterCodeOf_5 : decode prog_4_method_3_code 5 = .ok (.return_, 1) := by decide +kernel
def FR_enterCodeOf (h0 : Hp) (a0 : Nat) (p1 : Int32) : Option Hp :=
  pF h0 a0 2 0 (.int p1) (fun h1 =>
  some h1)
set_option maxRecDepth 100000 in
set_option maxHeartbeats 4000000 in
theorem mR_enterCodeOf (l : Launch) (h0 : Hp) (z0 : Nat) (a0 : Nat) (p1 : Int32) (r : Hp) (hr : FR_enterCodeOf h0 a0 p1 = some r) : vM False l yR_enterCodeOf (Cond.code yR_enterCodeOf prog_4_method_3_code 2 none :: gW) 0 [.ref a0, .int p1] h0 z0 r z0 none 0 0 := by
  refine vM.of (by decide) rfl (Nat.le_of_ble_eq_true rfl) ?_
  intro p e s m args below meth c D dA C hin2
  refine (?_ : vO p l e (vR 0 0 0) s m args below meth c D dA (vA h0 z0) 2 False (fun r : Hp => MQ below (vQc False h0 z0 D dA r z0 none) args s 0 0 (vAr False h0 z0)) 0 0 h0 z0 [(0, .ref a0), (1, .int p1)] 0 [] (FR_enterCodeOf h0 a0 p1)) r hr
  obtain ⟨Q, hQ⟩ : ∃ Q : Hp → State → Prop, Q = (fun r : Hp => MQ below (vQc False h0 z0 D dA r z0 none) args s 0 0 (vAr False h0 z0)) := ⟨_, rfl⟩
  rw [← hQ]
  unfold FR_enterCodeOf
  refine v_aload_n C dR_enterCodeOf_0 rfl 0 rfl ?_
  refine v_iload_n C dR_enterCodeOf_1 rfl 1 rfl ?_
  refine v_put C v_cl2 (by decide) in_2 ty_2 ty_2_ok nm_2 rfl w_75 rfl (ty := .int) (by decide +kernel) rfl rfl dR_enterCodeOf_2 (fun h1 => ?_)
  exact v_vret C dR_enterCodeOf_5 (by rw [hQ])
theorem dA_takeNumberBit_0 : decode prog_1_method_33_code 0 = .ok (.aload_n 0, 1) := by decide +kernel
theorem dA_takeNumberBit_1 : decode prog_1_method_33_code 1 = .ok (.getfield 42, 3) := by decide +kernel
theorem dA_takeNumberBit_4 : decode prog_1_method_33_code 4 = .ok (.iconst 2, 1) := by decide +kernel
theorem dA_takeNumberBit_5 : decode prog_1_method_33_code 5 = .ok (.aload_n 0, 1) := by decide +kernel
theorem dA_takeNumberBit_6 : decode prog_1_method_33_code 6 = .ok (.getfield 42, 3) := by decide +kernel
theorem dA_takeNumberBit_9 : decode prog_1_method_33_code 9 = .ok (.getfield 213, 3) := by decide +kernel
theorem dA_takeNumberBit_12 : decode prog_1_method_33_code 12 = .ok (.imul, 1) := by decide +kernel
theorem dA_takeNumberBit_13 : decode prog_1_method_33_code 13 = .ok (.iload_n 2, 1) := by decide +kernel
theorem dA_takeNumberBit_14 : decode prog_1_method_33_code 14 = .ok (.iadd, 1) := by decide +kernel
theorem dA_takeNumberBit_15 : decode prog_1_method_33_code 15 = .ok (.putfield 213, 3) := by decide +kernel
theorem dA_takeNumberBit_18 : decode prog_1_method_33_code 18 = .ok (.aload_n 0, 1) := by decide +kernel
theorem dA_takeNumberBit_19 : decode prog_1_method_33_code 19 = .ok (.getfield 42, 3) := by decide +kernel
theorem dA_takeNumberBit_22 : decode prog_1_method_33_code 22 = .ok (.dup, 1) := by decide +kernel
theorem dA_takeNumberBit_23 : decode prog_1_method_33_code 23 = .ok (.getfield 216, 3) := by decide +kernel
theorem dA_takeNumberBit_26 : decode prog_1_method_33_code 26 = .ok (.iconst 1, 1) := by decide +kernel
theorem dA_takeNumberBit_27 : decode prog_1_method_33_code 27 = .ok (.iadd, 1) := by decide +kernel
theorem dA_takeNumberBit_28 : decode prog_1_method_33_code 28 = .ok (.putfield 216, 3) := by decide +kernel
theorem dA_takeNumberBit_31 : decode prog_1_method_33_code 31 = .ok (.aload_n 0, 1) := by decide +kernel
theorem dA_takeNumberBit_32 : decode prog_1_method_33_code 32 = .ok (.getfield 42, 3) := by decide +kernel
theorem dA_takeNumberBit_35 : decode prog_1_method_33_code 35 = .ok (.getfield 216, 3) := by decide +kernel
theorem dA_takeNumberBit_38 : decode prog_1_method_33_code 38 = .ok (.aload_n 0, 1) := by decide +kernel
theorem dA_takeNumberBit_39 : decode prog_1_method_33_code 39 = .ok (.getfield 62, 3) := by decide +kernel
theorem dA_takeNumberBit_42 : decode prog_1_method_33_code 42 = .ok (.if_icmp .ge 5, 3) := by decide +kernel
theorem dA_takeNumberBit_45 : decode prog_1_method_33_code 45 = .ok (.iconst (-1), 1) := by decide +kernel
theorem dA_takeNumberBit_46 : decode prog_1_method_33_code 46 = .ok (.ireturn, 1) := by decide +kernel
theorem dA_takeNumberBit_47 : decode prog_1_method_33_code 47 = .ok (.aload_n 0, 1) := by decide +kernel
theorem dA_takeNumberBit_48 : decode prog_1_method_33_code 48 = .ok (.aload_n 0, 1) := by decide +kernel
theorem dA_takeNumberBit_49 : decode prog_1_method_33_code 49 = .ok (.getfield 42, 3) := by decide +kernel
theorem dA_takeNumberBit_52 : decode prog_1_method_33_code 52 = .ok (.getfield 213, 3) := by decide +kernel
theorem dA_takeNumberBit_55 : decode prog_1_method_33_code 55 = .ok (.invokevirtual 97, 3) := by decide +kernel
theorem dA_takeNumberBit_58 : decode prog_1_method_33_code 58 = .ok (.ifCond .eq 27, 3) := by decide +kernel
theorem dA_takeNumberBit_61 : decode prog_1_method_33_code 61 = .ok (.aload_n 1, 1) := by decide +kernel
theorem dA_takeNumberBit_62 : decode prog_1_method_33_code 62 = .ok (.aload_n 0, 1) := by decide +kernel
theorem dA_takeNumberBit_63 : decode prog_1_method_33_code 63 = .ok (.getfield 42, 3) := by decide +kernel
theorem dA_takeNumberBit_66 : decode prog_1_method_33_code 66 = .ok (.getfield 213, 3) := by decide +kernel
theorem dA_takeNumberBit_69 : decode prog_1_method_33_code 69 = .ok (.invokevirtual 130, 3) := by decide +kernel
theorem dA_takeNumberBit_72 : decode prog_1_method_33_code 72 = .ok (.ifCond .ne 13, 3) := by decide +kernel
theorem dA_takeNumberBit_75 : decode prog_1_method_33_code 75 = .ok (.aload_n 0, 1) := by decide +kernel
theorem dA_takeNumberBit_76 : decode prog_1_method_33_code 76 = .ok (.getfield 42, 3) := by decide +kernel
theorem dA_takeNumberBit_79 : decode prog_1_method_33_code 79 = .ok (.getfield 213, 3) := by decide +kernel
theorem dA_takeNumberBit_82 : decode prog_1_method_33_code 82 = .ok (.goto 5, 3) := by decide +kernel
theorem dA_takeNumberBit_85 : decode prog_1_method_33_code 85 = .ok (.bipush (-6), 2) := by decide +kernel
theorem dA_takeNumberBit_87 : decode prog_1_method_33_code 87 = .ok (.ireturn, 1) := by decide +kernel
def FA_takeNumberBit (h0 : Hp) (a0 : Nat) (u1 : Nat) (p2 : Int32) : Option (Hp × Int32) :=
  gR h0 a0 4 11 (fun a1 =>
  gR h0 a0 4 11 (fun a2 =>
  gI h0 a2 2 2 (fun x3 =>
  pF h0 a1 2 2 (.int ((2 * x3) + p2)) (fun h4 =>
  gR h4 a0 4 11 (fun a5 =>
  gI h4 a5 2 3 (fun x6 =>
  pF h4 a5 2 3 (.int (x6 + 1)) (fun h7 =>
  gR h7 a0 4 11 (fun a8 =>
  gI h7 a8 2 3 (fun x9 =>
  gI h7 a0 4 1 (fun x10 =>
  if x10 ≤ x9 then
    (gR h7 a0 4 11 (fun a11 =>
    gI h7 a11 2 2 (fun x12 =>
    gd (isO h7 a0 4 = true) ((FA_isSign h7 a0 x12).bind (fun r14 =>
    jn (fun (y15 : Int32) =>
    some (h7, y15))
    (fun (j16 : Int32 → Option (Hp × Int32)) =>
    jn (j16 (-6))
    (fun (j17 : Option (Hp × Int32)) =>
    if r14 = 0 then
      (j17)
    else
      (gR h7 a0 4 11 (fun a18 =>
      gI h7 a18 2 2 (fun x19 =>
      gd (isO h7 u1 3 = true) ((FT_hasLeafOf h7 u1 x19).bind (fun r21 =>
      if r21 = 0 then
        (gR h7 a0 4 11 (fun a22 =>
        gI h7 a22 2 2 (fun x23 =>
        j16 x23)))
      else
        (j17)))))))))))))
  else
    (some (h7, (-1)))))))))))))
set_option maxRecDepth 100000 in
set_option maxHeartbeats 4000000 in
theorem mA_takeNumberBit (l : Launch) (h0 : Hp) (z0 : Nat) (a0 : Nat) (u1 : Nat) (p2 : Int32) (r : (Hp × Int32)) (hr : FA_takeNumberBit h0 a0 u1 p2 = some r) : vM False l yA_takeNumberBit (Cond.code yA_takeNumberBit prog_1_method_33_code 3 (some (.int)) :: gW) 2 [.ref a0, .ref u1, .int p2] h0 z0 r.1 z0 (some (.int r.2)) 0 0 := by
  refine vM.of (by decide) rfl (Nat.le_of_ble_eq_true rfl) ?_
  intro p e s m args below meth c D dA C hin2
  refine (?_ : vO p l e (vR 2 0 0) s m args below meth c D dA (vA h0 z0) 3 False (fun r : (Hp × Int32) => MQ below (vQc False h0 z0 D dA r.1 z0 (some (.int r.2))) args s 0 0 (vAr False h0 z0)) 0 0 h0 z0 [(0, .ref a0), (1, .ref u1), (2, .int p2)] 0 [] (FA_takeNumberBit h0 a0 u1 p2)) r hr
  obtain ⟨Q, hQ⟩ : ∃ Q : (Hp × Int32) → State → Prop, Q = (fun r : (Hp × Int32) => MQ below (vQc False h0 z0 D dA r.1 z0 (some (.int r.2))) args s 0 0 (vAr False h0 z0)) := ⟨_, rfl⟩
  rw [← hQ]
  unfold FA_takeNumberBit
  refine v_aload_n C dA_takeNumberBit_0 rfl 0 rfl ?_
  refine v_getR C v_cl4 (by decide) in_4 rfl w_212 dA_takeNumberBit_1 (fun a1 => ?_)
  refine v_iconst (v := 2) C dA_takeNumberBit_4 (by decide) ?_
  refine v_aload_n C dA_takeNumberBit_5 rfl 0 rfl ?_
  refine v_getR C v_cl4 (by decide) in_4 rfl w_212 dA_takeNumberBit_6 (fun a2 => ?_)
  refine v_getIN C v_cl2 (by decide) in_2 rfl (nf_6 C.2.2.2.2.2.2.2.2.2) dA_takeNumberBit_9 (fun x3 => ?_)
  refine v_imul C dA_takeNumberBit_12 ?_
  refine v_iload_n C dA_takeNumberBit_13 rfl 2 rfl ?_
  refine v_iadd C dA_takeNumberBit_14 ?_
  refine v_putN C v_cl2 (by decide) in_2 ty_2 ty_2_ok nm_2 rfl (nf_6 C.2.2.2.2.2.2.2.2.2) rfl (ty := .int) (by decide +kernel) rfl rfl dA_takeNumberBit_15 (fun h4 => ?_)
  refine v_aload_n C dA_takeNumberBit_18 rfl 0 rfl ?_
  refine v_getR C v_cl4 (by decide) in_4 rfl w_212 dA_takeNumberBit_19 (fun a5 => ?_)
  refine v_dup C dA_takeNumberBit_22 rfl ?_
  refine v_getIN C v_cl2 (by decide) in_2 rfl (nf_7 C.2.2.2.2.2.2.2.2.2) dA_takeNumberBit_23 (fun x6 => ?_)
  refine v_iconst (v := 1) C dA_takeNumberBit_26 (by decide) ?_
  refine v_iadd C dA_takeNumberBit_27 ?_
  refine v_putN C v_cl2 (by decide) in_2 ty_2 ty_2_ok nm_2 rfl (nf_7 C.2.2.2.2.2.2.2.2.2) rfl (ty := .int) (by decide +kernel) rfl rfl dA_takeNumberBit_28 (fun h7 => ?_)
  refine v_aload_n C dA_takeNumberBit_31 rfl 0 rfl ?_
  refine v_getR C v_cl4 (by decide) in_4 rfl w_212 dA_takeNumberBit_32 (fun a8 => ?_)
  refine v_getIN C v_cl2 (by decide) in_2 rfl (nf_7 C.2.2.2.2.2.2.2.2.2) dA_takeNumberBit_35 (fun x9 => ?_)
  refine v_aload_n C dA_takeNumberBit_38 rfl 0 rfl ?_
  refine v_getI C v_cl4 (by decide) in_4 rfl w_202 dA_takeNumberBit_39 (fun x10 => ?_)
  refine v_icmp_ge (tgt := 47) C dA_takeNumberBit_42 (by decide) ?_ ?_
  · refine v_aload_n C dA_takeNumberBit_47 rfl 0 rfl ?_
    refine v_aload_n C dA_takeNumberBit_48 rfl 0 rfl ?_
    refine v_getR C v_cl4 (by decide) in_4 rfl w_212 dA_takeNumberBit_49 (fun a11 => ?_)
    refine v_getIN C v_cl2 (by decide) in_2 rfl (nf_6 C.2.2.2.2.2.2.2.2.2) dA_takeNumberBit_52 (fun x12 => ?_)
    refine v_gd fun hO13 => ?_
    refine v_bind fun r14 hr14 => ?_
    refine v_callV0 (N := 1) (As := [.int x12]) (st := []) C (fun _ => trivial) (mA_isSign l h7 z0 a0 x12 r14 hr14) rfl w_273 w_47 (by decide +kernel) ⟨Nat.le_of_ble_eq_true rfl, Nat.le_of_ble_eq_true rfl⟩ rfl rfl (Nat.le_of_ble_eq_true rfl) ⟨Nat.zero_le _, Nat.zero_le _⟩ w_270 w_272 w_3 v_cl4 rfl hO13 dA_takeNumberBit_55 ?_
    refine v_jn (fun (j : Int32 → Option (Hp × Int32)) => ∀ (y15 : Int32), vO p l e (vR 2 0 0) s m args below meth c D dA (vA h0 z0) 3 False Q 0 0 h7 z0 [] 87 [.int y15] (j y15)) ?_ (fun j16 Hj16 => ?_)
    · intro y15
      exact v_iret C dA_takeNumberBit_87 (by rw [hQ])
    · refine v_jn (fun (j : Option (Hp × Int32)) => vO p l e (vR 2 0 0) s m args below meth c D dA (vA h0 z0) 3 False Q 0 0 h7 z0 [] 85 [] j) ?_ (fun j17 Hj17 => ?_)
      · refine v_bipush (v := (-6)) C dA_takeNumberBit_85 (by decide) ?_
        exact Hj16 (-6)
      · refine v_if_eq (tgt := 85) C dA_takeNumberBit_58 (by decide) ?_ ?_
        · refine v_lv (lv' := []) [] rfl ?_
          exact Hj17
        · refine v_aload_n C dA_takeNumberBit_61 rfl 1 rfl ?_
          refine v_aload_n C dA_takeNumberBit_62 rfl 0 rfl ?_
          refine v_getR C v_cl4 (by decide) in_4 rfl w_212 dA_takeNumberBit_63 (fun a18 => ?_)
          refine v_getIN C v_cl2 (by decide) in_2 rfl (nf_6 C.2.2.2.2.2.2.2.2.2) dA_takeNumberBit_66 (fun x19 => ?_)
          refine v_gd fun hO20 => ?_
          refine v_bind fun r21 hr21 => ?_
          refine v_callV0 (N := 1) (As := [.int x19]) (st := []) C (fun _ => trivial) (mT_hasLeafOf l h7 z0 u1 x19 r21 hr21) rfl w_281 w_52 (by decide +kernel) ⟨Nat.le_of_ble_eq_true rfl, Nat.le_of_ble_eq_true rfl⟩ rfl rfl (Nat.le_of_ble_eq_true rfl) ⟨Nat.zero_le _, Nat.zero_le _⟩ w_278 w_279 w_280 v_cl3 rfl hO20 dA_takeNumberBit_69 ?_
          refine v_if_ne (tgt := 85) C dA_takeNumberBit_72 (by decide) ?_ ?_
          · refine v_lv (lv' := []) [] rfl ?_
            exact Hj17
          · refine v_aload_n C dA_takeNumberBit_75 rfl 0 rfl ?_
            refine v_getR C v_cl4 (by decide) in_4 rfl w_212 dA_takeNumberBit_76 (fun a22 => ?_)
            refine v_getIN C v_cl2 (by decide) in_2 rfl (nf_6 C.2.2.2.2.2.2.2.2.2) dA_takeNumberBit_79 (fun x23 => ?_)
            refine v_goto (tgt := 87) C dA_takeNumberBit_82 (by decide) ?_
            refine v_lv (lv' := []) [] rfl ?_
            exact Hj16 x23
  · refine v_iconst (v := (-1)) C dA_takeNumberBit_45 (by decide) ?_
    exact v_iret C dA_takeNumberBit_46 (by rw [hQ])
theorem dA_takeWayBit_0 : decode prog_1_method_32_code 0 = .ok (.aload_n 0, 1) := by decide +kernel
theorem dA_takeWayBit_1 : decode prog_1_method_32_code 1 = .ok (.getfield 42, 3) := by decide +kernel
theorem dA_takeWayBit_4 : decode prog_1_method_32_code 4 = .ok (.aload_n 1, 1) := by decide +kernel
theorem dA_takeWayBit_5 : decode prog_1_method_32_code 5 = .ok (.aload_n 0, 1) := by decide +kernel
theorem dA_takeWayBit_6 : decode prog_1_method_32_code 6 = .ok (.getfield 42, 3) := by decide +kernel
theorem dA_takeWayBit_9 : decode prog_1_method_32_code 9 = .ok (.getfield 203, 3) := by decide +kernel
theorem dA_takeWayBit_12 : decode prog_1_method_32_code 12 = .ok (.iload_n 2, 1) := by decide +kernel
theorem dA_takeWayBit_13 : decode prog_1_method_32_code 13 = .ok (.invokevirtual 170, 3) := by decide +kernel
theorem dA_takeWayBit_16 : decode prog_1_method_32_code 16 = .ok (.putfield 203, 3) := by decide +kernel
theorem dA_takeWayBit_19 : decode prog_1_method_32_code 19 = .ok (.aload_n 1, 1) := by decide +kernel
theorem dA_takeWayBit_20 : decode prog_1_method_32_code 20 = .ok (.aload_n 0, 1) := by decide +kernel
theorem dA_takeWayBit_21 : decode prog_1_method_32_code 21 = .ok (.getfield 42, 3) := by decide +kernel
theorem dA_takeWayBit_24 : decode prog_1_method_32_code 24 = .ok (.getfield 203, 3) := by decide +kernel
theorem dA_takeWayBit_27 : decode prog_1_method_32_code 27 = .ok (.invokevirtual 164, 3) := by decide +kernel
theorem dA_takeWayBit_30 : decode prog_1_method_32_code 30 = .ok (.istore_n 3, 1) := by decide +kernel
theorem dA_takeWayBit_31 : decode prog_1_method_32_code 31 = .ok (.iload_n 3, 1) := by decide +kernel
theorem dA_takeWayBit_32 : decode prog_1_method_32_code 32 = .ok (.ifCond .lt 7, 3) := by decide +kernel
theorem dA_takeWayBit_35 : decode prog_1_method_32_code 35 = .ok (.iload_n 3, 1) := by decide +kernel
theorem dA_takeWayBit_36 : decode prog_1_method_32_code 36 = .ok (.goto 4, 3) := by decide +kernel
theorem dA_takeWayBit_39 : decode prog_1_method_32_code 39 = .ok (.iconst (-1), 1) := by decide +kernel
theorem dA_takeWayBit_40 : decode prog_1_method_32_code 40 = .ok (.ireturn, 1) := by decide +kernel
def FA_takeWayBit (h0 : Hp) (a0 : Nat) (u1 : Nat) (p2 : Int32) : Option (Hp × Int32) :=
  gR h0 a0 4 11 (fun a1 =>
  gR h0 a0 4 11 (fun a2 =>
  gI h0 a2 2 1 (fun x3 =>
  gd (isO h0 u1 3 = true) ((FT_childOf h0 u1 x3 p2).bind (fun r5 =>
  pF h0 a1 2 1 (.int r5) (fun h6 =>
  gR h6 a0 4 11 (fun a7 =>
  gI h6 a7 2 1 (fun x8 =>
  gd (isO h6 u1 3 = true) ((FT_signAt h6 u1 x8).bind (fun r10 =>
  jn (fun (y11 : Int32) =>
  some (h6, y11))
  (fun (j12 : Int32 → Option (Hp × Int32)) =>
  if r10 < 0 then
    (j12 (-1))
  else
    (j12 r10))))))))))))
set_option maxRecDepth 100000 in
set_option maxHeartbeats 4000000 in
theorem mA_takeWayBit (l : Launch) (h0 : Hp) (z0 : Nat) (a0 : Nat) (u1 : Nat) (p2 : Int32) (r : (Hp × Int32)) (hr : FA_takeWayBit h0 a0 u1 p2 = some r) : vM False l yA_takeWayBit (Cond.code yA_takeWayBit prog_1_method_32_code 4 (some (.int)) :: gW) 2 [.ref a0, .ref u1, .int p2] h0 z0 r.1 z0 (some (.int r.2)) 0 0 := by
  refine vM.of (by decide) rfl (Nat.le_of_ble_eq_true rfl) ?_
  intro p e s m args below meth c D dA C hin2
  refine (?_ : vO p l e (vR 2 0 0) s m args below meth c D dA (vA h0 z0) 4 False (fun r : (Hp × Int32) => MQ below (vQc False h0 z0 D dA r.1 z0 (some (.int r.2))) args s 0 0 (vAr False h0 z0)) 0 0 h0 z0 [(0, .ref a0), (1, .ref u1), (2, .int p2)] 0 [] (FA_takeWayBit h0 a0 u1 p2)) r hr
  obtain ⟨Q, hQ⟩ : ∃ Q : (Hp × Int32) → State → Prop, Q = (fun r : (Hp × Int32) => MQ below (vQc False h0 z0 D dA r.1 z0 (some (.int r.2))) args s 0 0 (vAr False h0 z0)) := ⟨_, rfl⟩
  rw [← hQ]
  unfold FA_takeWayBit
  refine v_aload_n C dA_takeWayBit_0 rfl 0 rfl ?_
  refine v_getR C v_cl4 (by decide) in_4 rfl w_212 dA_takeWayBit_1 (fun a1 => ?_)
  refine v_aload_n C dA_takeWayBit_4 rfl 1 rfl ?_
  refine v_aload_n C dA_takeWayBit_5 rfl 0 rfl ?_
  refine v_getR C v_cl4 (by decide) in_4 rfl w_212 dA_takeWayBit_6 (fun a2 => ?_)
  refine v_getIN C v_cl2 (by decide) in_2 rfl (nf_5 C.2.2.2.2.2.2.2.2.2) dA_takeWayBit_9 (fun x3 => ?_)
  refine v_iload_n C dA_takeWayBit_12 rfl 2 rfl ?_
  refine v_gd fun hO4 => ?_
  refine v_bind fun r5 hr5 => ?_
  refine v_callV0 (N := 2) (As := [.int x3, .int p2]) (st := [.ref a1]) C (fun _ => trivial) (mT_childOf l h0 z0 u1 x3 p2 r5 hr5) rfl w_298 w_52 (by decide +kernel) ⟨Nat.le_of_ble_eq_true rfl, Nat.le_of_ble_eq_true rfl⟩ rfl rfl (Nat.le_of_ble_eq_true rfl) ⟨Nat.zero_le _, Nat.zero_le _⟩ w_420 w_296 w_297 v_cl3 rfl hO4 dA_takeWayBit_13 ?_
  refine v_putN C v_cl2 (by decide) in_2 ty_2 ty_2_ok nm_2 rfl (nf_5 C.2.2.2.2.2.2.2.2.2) rfl (ty := .int) (by decide +kernel) rfl rfl dA_takeWayBit_16 (fun h6 => ?_)
  refine v_aload_n C dA_takeWayBit_19 rfl 1 rfl ?_
  refine v_aload_n C dA_takeWayBit_20 rfl 0 rfl ?_
  refine v_getR C v_cl4 (by decide) in_4 rfl w_212 dA_takeWayBit_21 (fun a7 => ?_)
  refine v_getIN C v_cl2 (by decide) in_2 rfl (nf_5 C.2.2.2.2.2.2.2.2.2) dA_takeWayBit_24 (fun x8 => ?_)
  refine v_gd fun hO9 => ?_
  refine v_bind fun r10 hr10 => ?_
  refine v_callV0 (N := 1) (As := [.int x8]) (st := []) C (fun _ => trivial) (mT_signAt l h6 z0 u1 x8 r10 hr10) rfl w_360 w_52 (by decide +kernel) ⟨Nat.le_of_ble_eq_true rfl, Nat.le_of_ble_eq_true rfl⟩ rfl rfl (Nat.le_of_ble_eq_true rfl) ⟨Nat.zero_le _, Nat.zero_le _⟩ w_411 w_358 w_359 v_cl3 rfl hO9 dA_takeWayBit_27 ?_
  refine v_istore_n (lv' := [(3, .int r10)]) C dA_takeWayBit_30 rfl (by decide) [0] rfl ?_
  refine v_iload_n C dA_takeWayBit_31 rfl 0 rfl ?_
  refine v_jn (fun (j : Int32 → Option (Hp × Int32)) => ∀ (y11 : Int32), vO p l e (vR 2 0 0) s m args below meth c D dA (vA h0 z0) 4 False Q 0 0 h6 z0 [] 40 [.int y11] (j y11)) ?_ (fun j12 Hj12 => ?_)
  · intro y11
    exact v_iret C dA_takeWayBit_40 (by rw [hQ])
  · refine v_if_lt (tgt := 39) C dA_takeWayBit_32 (by decide) ?_ ?_
    · refine v_iconst (v := (-1)) C dA_takeWayBit_39 (by decide) ?_
      refine v_lv (lv' := []) [] rfl ?_
      exact Hj12 (-1)
    · refine v_iload_n C dA_takeWayBit_35 rfl 0 rfl ?_
      refine v_goto (tgt := 40) C dA_takeWayBit_36 (by decide) ?_
      refine v_lv (lv' := []) [] rfl ?_
      exact Hj12 r10
theorem dA_readBit_0 : decode prog_1_method_31_code 0 = .ok (.aload_n 0, 1) := by decide +kernel
theorem dA_readBit_1 : decode prog_1_method_31_code 1 = .ok (.getfield 15, 3) := by decide +kernel
theorem dA_readBit_4 : decode prog_1_method_31_code 4 = .ok (.iload_n 1, 1) := by decide +kernel
theorem dA_readBit_5 : decode prog_1_method_31_code 5 = .ok (.aaload, 1) := by decide +kernel
theorem dA_readBit_6 : decode prog_1_method_31_code 6 = .ok (.astore_n 3, 1) := by decide +kernel
theorem dA_readBit_7 : decode prog_1_method_31_code 7 = .ok (.aload_n 0, 1) := by decide +kernel
theorem dA_readBit_8 : decode prog_1_method_31_code 8 = .ok (.getfield 42, 3) := by decide +kernel
theorem dA_readBit_11 : decode prog_1_method_31_code 11 = .ok (.iload_n 1, 1) := by decide +kernel
theorem dA_readBit_12 : decode prog_1_method_31_code 12 = .ok (.invokevirtual 200, 3) := by decide +kernel
theorem dA_readBit_15 : decode prog_1_method_31_code 15 = .ok (.aload_n 3, 1) := by decide +kernel
theorem dA_readBit_16 : decode prog_1_method_31_code 16 = .ok (.aload_n 0, 1) := by decide +kernel
theorem dA_readBit_17 : decode prog_1_method_31_code 17 = .ok (.getfield 42, 3) := by decide +kernel
theorem dA_readBit_20 : decode prog_1_method_31_code 20 = .ok (.getfield 203, 3) := by decide +kernel
theorem dA_readBit_23 : decode prog_1_method_31_code 23 = .ok (.invokevirtual 164, 3) := by decide +kernel
theorem dA_readBit_26 : decode prog_1_method_31_code 26 = .ok (.bipush (-2), 2) := by decide +kernel
theorem dA_readBit_28 : decode prog_1_method_31_code 28 = .ok (.if_icmp .ne 7, 3) := by decide +kernel
theorem dA_readBit_31 : decode prog_1_method_31_code 31 = .ok (.iconst 1, 1) := by decide +kernel
theorem dA_readBit_32 : decode prog_1_method_31_code 32 = .ok (.goto 4, 3) := by decide +kernel
theorem dA_readBit_35 : decode prog_1_method_31_code 35 = .ok (.iconst 0, 1) := by decide +kernel
theorem dA_readBit_36 : decode prog_1_method_31_code 36 = .ok (.istore 4, 2) := by decide +kernel
theorem dA_readBit_38 : decode prog_1_method_31_code 38 = .ok (.iload 4, 2) := by decide +kernel
theorem dA_readBit_40 : decode prog_1_method_31_code 40 = .ok (.ifCond .eq 12, 3) := by decide +kernel
theorem dA_readBit_43 : decode prog_1_method_31_code 43 = .ok (.aload_n 0, 1) := by decide +kernel
theorem dA_readBit_44 : decode prog_1_method_31_code 44 = .ok (.aload_n 3, 1) := by decide +kernel
theorem dA_readBit_45 : decode prog_1_method_31_code 45 = .ok (.iload_n 2, 1) := by decide +kernel
theorem dA_readBit_46 : decode prog_1_method_31_code 46 = .ok (.invokevirtual 206, 3) := by decide +kernel
theorem dA_readBit_49 : decode prog_1_method_31_code 49 = .ok (.goto 9, 3) := by decide +kernel
theorem dA_readBit_52 : decode prog_1_method_31_code 52 = .ok (.aload_n 0, 1) := by decide +kernel
theorem dA_readBit_53 : decode prog_1_method_31_code 53 = .ok (.aload_n 3, 1) := by decide +kernel
theorem dA_readBit_54 : decode prog_1_method_31_code 54 = .ok (.iload_n 2, 1) := by decide +kernel
theorem dA_readBit_55 : decode prog_1_method_31_code 55 = .ok (.invokevirtual 210, 3) := by decide +kernel
theorem dA_readBit_58 : decode prog_1_method_31_code 58 = .ok (.istore 5, 2) := by decide +kernel
theorem dA_readBit_60 : decode prog_1_method_31_code 60 = .ok (.iload 5, 2) := by decide +kernel
theorem dA_readBit_62 : decode prog_1_method_31_code 62 = .ok (.iconst (-1), 1) := by decide +kernel
theorem dA_readBit_63 : decode prog_1_method_31_code 63 = .ok (.if_icmp .ne 5, 3) := by decide +kernel
theorem dA_readBit_66 : decode prog_1_method_31_code 66 = .ok (.iconst (-1), 1) := by decide +kernel
theorem dA_readBit_67 : decode prog_1_method_31_code 67 = .ok (.ireturn, 1) := by decide +kernel
theorem dA_readBit_68 : decode prog_1_method_31_code 68 = .ok (.aload_n 0, 1) := by decide +kernel
theorem dA_readBit_69 : decode prog_1_method_31_code 69 = .ok (.getfield 42, 3) := by decide +kernel
theorem dA_readBit_72 : decode prog_1_method_31_code 72 = .ok (.invokevirtual 114, 3) := by decide +kernel
theorem dA_readBit_75 : decode prog_1_method_31_code 75 = .ok (.iload 5, 2) := by decide +kernel
theorem dA_readBit_77 : decode prog_1_method_31_code 77 = .ok (.bipush (-6), 2) := by decide +kernel
theorem dA_readBit_79 : decode prog_1_method_31_code 79 = .ok (.if_icmp .eq 13, 3) := by decide +kernel
theorem dA_readBit_82 : decode prog_1_method_31_code 82 = .ok (.aload_n 3, 1) := by decide +kernel
theorem dA_readBit_83 : decode prog_1_method_31_code 83 = .ok (.iload 5, 2) := by decide +kernel
theorem dA_readBit_85 : decode prog_1_method_31_code 85 = .ok (.aload_n 0, 1) := by decide +kernel
theorem dA_readBit_86 : decode prog_1_method_31_code 86 = .ok (.getfield 36, 3) := by decide +kernel
theorem dA_readBit_89 : decode prog_1_method_31_code 89 = .ok (.invokevirtual 110, 3) := by decide +kernel
theorem dA_readBit_92 : decode prog_1_method_31_code 92 = .ok (.iload 5, 2) := by decide +kernel
theorem dA_readBit_94 : decode prog_1_method_31_code 94 = .ok (.ireturn, 1) := by decide +kernel
def FA_readBit (h0 : Hp) (a0 : Nat) (p1 : Int32) (p2 : Int32) : Option (Hp × Int32) :=
  gR h0 a0 4 3 (fun a1 =>
  ldQ h0 a1 3 p1 (fun a2 =>
  gR h0 a0 4 11 (fun a3 =>
  gd (isO h0 a3 2 = true) ((FR_enterCodeOf h0 a3 p1).bind (fun r5 =>
  gR r5 a0 4 11 (fun a6 =>
  gI r5 a6 2 1 (fun x7 =>
  gd (isO r5 a2 3 = true) ((FT_signAt r5 a2 x7).bind (fun r9 =>
  jn (fun (y10 : Int32) =>
  jn (fun (h12 : Hp) (y13 : Int32) =>
  if y13 = (-1) then
    (some (h12, (-1)))
  else
    (gR h12 a0 4 11 (fun a15 =>
    gd (isO h12 a15 2 = true) ((FR_begin h12 a15).bind (fun r17 =>
    jn (fun (h18 : Hp) =>
    some (h18, y13))
    (fun (j19 : Hp → Option (Hp × Int32)) =>
    if y13 = (-6) then
      (j19 r17)
    else
      (gI r17 a0 4 9 (fun x20 =>
      gd (isO r17 a2 3 = true) ((FT_stepBy r17 a2 y13 x20).bind (fun r22 =>
      j19 r22))))))))))
  (fun (j14 : Hp → Int32 → Option (Hp × Int32)) =>
  if y10 = 0 then
    (gd (isO r5 a0 4 = true) ((FA_takeWayBit r5 a0 a2 p2).bind (fun r24 =>
    j14 r24.1 r24.2)))
  else
    (gd (isO r5 a0 4 = true) ((FA_takeNumberBit r5 a0 a2 p2).bind (fun r26 =>
    j14 r26.1 r26.2)))))
  (fun (j11 : Int32 → Option (Hp × Int32)) =>
  if r9 = (-2) then
    (j11 1)
  else
    (j11 0)))))))))))
set_option maxRecDepth 100000 in
set_option maxHeartbeats 4000000 in
theorem mA_readBit (l : Launch) (h0 : Hp) (z0 : Nat) (a0 : Nat) (p1 : Int32) (p2 : Int32) (r : (Hp × Int32)) (hr : FA_readBit h0 a0 p1 p2 = some r) : vM False l yA_readBit (Cond.code yA_readBit prog_1_method_31_code 6 (some (.int)) :: gW) 6 [.ref a0, .int p1, .int p2] h0 z0 r.1 z0 (some (.int r.2)) 0 0 := by
  refine vM.of (by decide) rfl (Nat.le_of_ble_eq_true rfl) ?_
  intro p e s m args below meth c D dA C hin2
  refine (?_ : vO p l e (vR 6 0 0) s m args below meth c D dA (vA h0 z0) 6 False (fun r : (Hp × Int32) => MQ below (vQc False h0 z0 D dA r.1 z0 (some (.int r.2))) args s 0 0 (vAr False h0 z0)) 0 0 h0 z0 [(0, .ref a0), (1, .int p1), (2, .int p2)] 0 [] (FA_readBit h0 a0 p1 p2)) r hr
  obtain ⟨Q, hQ⟩ : ∃ Q : (Hp × Int32) → State → Prop, Q = (fun r : (Hp × Int32) => MQ below (vQc False h0 z0 D dA r.1 z0 (some (.int r.2))) args s 0 0 (vAr False h0 z0)) := ⟨_, rfl⟩
  rw [← hQ]
  unfold FA_readBit
  refine v_aload_n C dA_readBit_0 rfl 0 rfl ?_
  refine v_getR C v_cl4 (by decide) in_4 rfl w_204 dA_readBit_1 (fun a1 => ?_)
  refine v_iload_n C dA_readBit_4 rfl 1 rfl ?_
  refine v_aald C rfl dA_readBit_5 (fun a2 => ?_)
  refine v_astore_n (lv' := [(0, .ref a0), (1, .int p1), (2, .int p2), (3, .ref a2)]) C dA_readBit_6 rfl (by decide) [1, 2, 3, 0] rfl ?_
  refine v_aload_n C dA_readBit_7 rfl 0 rfl ?_
  refine v_getR C v_cl4 (by decide) in_4 rfl w_212 dA_readBit_8 (fun a3 => ?_)
  refine v_iload_n C dA_readBit_11 rfl 1 rfl ?_
  refine v_gd fun hO4 => ?_
  refine v_bind fun r5 hr5 => ?_
  refine v_callV0 (N := 1) (As := [.int p1]) (st := []) C (fun f => f.elim) (mR_enterCodeOf l h0 z0 a3 p1 r5 hr5) rfl w_410 w_48 (by decide +kernel) ⟨Nat.le_of_ble_eq_true rfl, Nat.le_of_ble_eq_true rfl⟩ rfl rfl (Nat.le_of_ble_eq_true rfl) ⟨Nat.zero_le _, Nat.zero_le _⟩ w_407 w_408 w_409 v_cl2 rfl hO4 dA_readBit_12 ?_
  refine v_aload_n C dA_readBit_15 rfl 3 rfl ?_
  refine v_aload_n C dA_readBit_16 rfl 0 rfl ?_
  refine v_getR C v_cl4 (by decide) in_4 rfl w_212 dA_readBit_17 (fun a6 => ?_)
  refine v_getIN C v_cl2 (by decide) in_2 rfl (nf_5 C.2.2.2.2.2.2.2.2.2) dA_readBit_20 (fun x7 => ?_)
  refine v_gd fun hO8 => ?_
  refine v_bind fun r9 hr9 => ?_
  refine v_callV0 (N := 1) (As := [.int x7]) (st := []) C (fun _ => trivial) (mT_signAt l r5 z0 a2 x7 r9 hr9) rfl w_360 w_52 (by decide +kernel) ⟨Nat.le_of_ble_eq_true rfl, Nat.le_of_ble_eq_true rfl⟩ rfl rfl (Nat.le_of_ble_eq_true rfl) ⟨Nat.zero_le _, Nat.zero_le _⟩ w_411 w_358 w_359 v_cl3 rfl hO8 dA_readBit_23 ?_
  refine v_bipush (v := (-2)) C dA_readBit_26 (by decide) ?_
  refine v_jn (fun (j : Int32 → Option (Hp × Int32)) => ∀ (y10 : Int32), vO p l e (vR 6 0 0) s m args below meth c D dA (vA h0 z0) 6 False Q 0 0 r5 z0 [(0, .ref a0), (2, .int p2), (3, .ref a2)] 36 [.int y10] (j y10)) ?_ (fun j11 Hj11 => ?_)
  · intro y10
    refine v_istore (lv' := [(0, .ref a0), (2, .int p2), (3, .ref a2), (4, .int y10)]) C dA_readBit_36 (by decide) [1, 2, 3, 0] rfl ?_
    refine v_iload C dA_readBit_38 3 rfl ?_
    refine v_jn (fun (j : Hp → Int32 → Option (Hp × Int32)) => ∀ (h12 : Hp), ∀ (y13 : Int32), vO p l e (vR 6 0 0) s m args below meth c D dA (vA h0 z0) 6 False Q 0 0 h12 z0 [(0, .ref a0), (3, .ref a2)] 58 [.int y13] (j h12 y13)) ?_ (fun j14 Hj14 => ?_)
    · intro h12 y13
      refine v_istore (lv' := [(0, .ref a0), (3, .ref a2), (5, .int y13)]) C dA_readBit_58 (by decide) [1, 2, 0] rfl ?_
      refine v_iload C dA_readBit_60 2 rfl ?_
      refine v_iconst (v := (-1)) C dA_readBit_62 (by decide) ?_
      refine v_icmp_ne (tgt := 68) C dA_readBit_63 (by decide) ?_ ?_
      · refine v_aload_n C dA_readBit_68 rfl 0 rfl ?_
        refine v_getR C v_cl4 (by decide) in_4 rfl w_212 dA_readBit_69 (fun a15 => ?_)
        refine v_gd fun hO16 => ?_
        refine v_bind fun r17 hr17 => ?_
        refine v_callV0 (N := 0) (As := []) (st := []) C (fun f => f.elim) (mR_begin l h12 z0 a15 r17 hr17) rfl w_260 w_48 (by decide +kernel) ⟨Nat.le_of_ble_eq_true rfl, Nat.le_of_ble_eq_true rfl⟩ rfl rfl (Nat.le_of_ble_eq_true rfl) ⟨Nat.zero_le _, Nat.zero_le _⟩ w_394 w_258 w_259 v_cl2 rfl hO16 dA_readBit_72 ?_
        refine v_iload C dA_readBit_75 2 rfl ?_
        refine v_bipush (v := (-6)) C dA_readBit_77 (by decide) ?_
        refine v_jn (fun (j : Hp → Option (Hp × Int32)) => ∀ (h18 : Hp), vO p l e (vR 6 0 0) s m args below meth c D dA (vA h0 z0) 6 False Q 0 0 h18 z0 [(5, .int y13)] 92 [] (j h18)) ?_ (fun j19 Hj19 => ?_)
        · intro h18
          refine v_iload C dA_readBit_92 0 rfl ?_
          exact v_iret C dA_readBit_94 (by rw [hQ])
        · refine v_icmp_eq (tgt := 92) C dA_readBit_79 (by decide) ?_ ?_
          · refine v_lv (lv' := [(5, .int y13)]) [2] rfl ?_
            exact Hj19 r17
          · refine v_aload_n C dA_readBit_82 rfl 1 rfl ?_
            refine v_iload C dA_readBit_83 2 rfl ?_
            refine v_aload_n C dA_readBit_85 rfl 0 rfl ?_
            refine v_getI C v_cl4 (by decide) in_4 rfl w_210 dA_readBit_86 (fun x20 => ?_)
            refine v_gd fun hO21 => ?_
            refine v_bind fun r22 hr22 => ?_
            refine v_callV0 (N := 2) (As := [.int y13, .int x20]) (st := []) C (fun f => f.elim) (mT_stepBy l r17 z0 a2 y13 x20 r22 hr22) rfl w_319 w_52 (by decide +kernel) ⟨Nat.le_of_ble_eq_true rfl, Nat.le_of_ble_eq_true rfl⟩ rfl rfl (Nat.le_of_ble_eq_true rfl) ⟨Nat.zero_le _, Nat.zero_le _⟩ w_316 w_317 w_318 v_cl3 rfl hO21 dA_readBit_89 ?_
            refine v_lv (lv' := [(5, .int y13)]) [2] rfl ?_
            exact Hj19 r22
      · refine v_iconst (v := (-1)) C dA_readBit_66 (by decide) ?_
        exact v_iret C dA_readBit_67 (by rw [hQ])
    · refine v_if_eq (tgt := 52) C dA_readBit_40 (by decide) ?_ ?_
      · refine v_aload_n C dA_readBit_52 rfl 0 rfl ?_
        refine v_aload_n C dA_readBit_53 rfl 2 rfl ?_
        refine v_iload_n C dA_readBit_54 rfl 1 rfl ?_
        refine v_gd fun hO23 => ?_
        refine v_bind fun r24 hr24 => ?_
        refine v_callV0 (N := 2) (As := [.ref a2, .int p2]) (st := []) C (fun f => f.elim) (mA_takeWayBit l r5 z0 a0 a2 p2 r24 hr24) rfl w_419 w_47 (by decide +kernel) ⟨Nat.le_of_ble_eq_true rfl, Nat.le_of_ble_eq_true rfl⟩ rfl rfl (Nat.le_of_ble_eq_true rfl) ⟨Nat.zero_le _, Nat.zero_le _⟩ w_416 w_418 w_17 v_cl4 rfl hO23 dA_readBit_55 ?_
        refine v_lv (lv' := [(0, .ref a0), (3, .ref a2)]) [0, 2] rfl ?_
        exact Hj14 r24.1 r24.2
      · refine v_aload_n C dA_readBit_43 rfl 0 rfl ?_
        refine v_aload_n C dA_readBit_44 rfl 2 rfl ?_
        refine v_iload_n C dA_readBit_45 rfl 1 rfl ?_
        refine v_gd fun hO25 => ?_
        refine v_bind fun r26 hr26 => ?_
        refine v_callV0 (N := 2) (As := [.ref a2, .int p2]) (st := []) C (fun f => f.elim) (mA_takeNumberBit l r5 z0 a0 a2 p2 r26 hr26) rfl w_415 w_47 (by decide +kernel) ⟨Nat.le_of_ble_eq_true rfl, Nat.le_of_ble_eq_true rfl⟩ rfl rfl (Nat.le_of_ble_eq_true rfl) ⟨Nat.zero_le _, Nat.zero_le _⟩ w_412 w_414 w_16 v_cl4 rfl hO25 dA_readBit_46 ?_
        refine v_goto (tgt := 58) C dA_readBit_49 (by decide) ?_
        refine v_lv (lv' := [(0, .ref a0), (3, .ref a2)]) [0, 2] rfl ?_
        exact Hj14 r26.1 r26.2
  · refine v_icmp_ne (tgt := 35) C dA_readBit_28 (by decide) ?_ ?_
    · refine v_iconst (v := 0) C dA_readBit_35 (by decide) ?_
      refine v_lv (lv' := [(0, .ref a0), (2, .int p2), (3, .ref a2)]) [0, 2, 3] rfl ?_
      exact Hj11 0
    · refine v_iconst (v := 1) C dA_readBit_31 (by decide) ?_
      refine v_goto (tgt := 36) C dA_readBit_32 (by decide) ?_
      refine v_lv (lv' := [(0, .ref a0), (2, .int p2), (3, .ref a2)]) [0, 2, 3] rfl ?_
      exact Hj11 1
theorem dA_get_0 : decode prog_1_method_8_code 0 = .ok (.iload_n 1, 1) := by decide +kernel
theorem dA_get_1 : decode prog_1_method_8_code 1 = .ok (.invokestatic 83, 3) := by decide +kernel
theorem dA_get_4 : decode prog_1_method_8_code 4 = .ok (.ifCond .ne 6, 3) := by decide +kernel
theorem dA_get_7 : decode prog_1_method_8_code 7 = .ok (.bipush (-2), 2) := by decide +kernel
theorem dA_get_9 : decode prog_1_method_8_code 9 = .ok (.ireturn, 1) := by decide +kernel
theorem dA_get_10 : decode prog_1_method_8_code 10 = .ok (.aload_n 0, 1) := by decide +kernel
theorem dA_get_11 : decode prog_1_method_8_code 11 = .ok (.getfield 42, 3) := by decide +kernel
theorem dA_get_14 : decode prog_1_method_8_code 14 = .ok (.iload_n 1, 1) := by decide +kernel
theorem dA_get_15 : decode prog_1_method_8_code 15 = .ok (.invokevirtual 117, 3) := by decide +kernel
theorem dA_get_18 : decode prog_1_method_8_code 18 = .ok (.ifCond .eq 6, 3) := by decide +kernel
theorem dA_get_21 : decode prog_1_method_8_code 21 = .ok (.bipush (-4), 2) := by decide +kernel
theorem dA_get_23 : decode prog_1_method_8_code 23 = .ok (.ireturn, 1) := by decide +kernel
theorem dA_get_24 : decode prog_1_method_8_code 24 = .ok (.aload_n 0, 1) := by decide +kernel
theorem dA_get_25 : decode prog_1_method_8_code 25 = .ok (.iload_n 1, 1) := by decide +kernel
theorem dA_get_26 : decode prog_1_method_8_code 26 = .ok (.iload_n 2, 1) := by decide +kernel
theorem dA_get_27 : decode prog_1_method_8_code 27 = .ok (.ifCond .eq 7, 3) := by decide +kernel
theorem dA_get_30 : decode prog_1_method_8_code 30 = .ok (.iconst 1, 1) := by decide +kernel
theorem dA_get_31 : decode prog_1_method_8_code 31 = .ok (.goto 4, 3) := by decide +kernel
theorem dA_get_34 : decode prog_1_method_8_code 34 = .ok (.iconst 0, 1) := by decide +kernel
theorem dA_get_35 : decode prog_1_method_8_code 35 = .ok (.invokevirtual 120, 3) := by decide +kernel
theorem dA_get_38 : decode prog_1_method_8_code 38 = .ok (.ireturn, 1) := by decide +kernel
def FA_get (h0 : Hp) (a0 : Nat) (p1 : Int32) (p2 : Int32) : Option (Hp × Int32) :=
  (FA_isTree h0 p1).bind (fun r1 =>
  if r1 = 0 then
    (some (h0, (-2)))
  else
    (gR h0 a0 4 11 (fun a2 =>
    gd (isO h0 a2 2 = true) ((FR_isInCodeOfOtherThan h0 a2 p1).bind (fun r4 =>
    if r4 = 0 then
      (jn (fun (y5 : Int32) (y6 : Int32) (b7 : Nat) =>
      gd (isO h0 b7 4 = true) ((FA_readBit h0 b7 y6 y5).bind (fun r10 =>
      some (r10.1, r10.2))))
      (fun (j8 : Int32 → Int32 → Nat → Option (Hp × Int32)) =>
      if p2 = 0 then
        (j8 0 p1 a0)
      else
        (j8 1 p1 a0)))
    else
      (some (h0, (-4))))))))
set_option maxRecDepth 100000 in
set_option maxHeartbeats 4000000 in
theorem mA_get (l : Launch) (h0 : Hp) (z0 : Nat) (a0 : Nat) (p1 : Int32) (p2 : Int32) (r : (Hp × Int32)) (hr : FA_get h0 a0 p1 p2 = some r) : vM False l yA_get (Cond.code yA_get prog_1_method_8_code 3 (some (.int)) :: gW) 7 [.ref a0, .int p1, .int p2] h0 z0 r.1 z0 (some (.int r.2)) 0 0 := by
  refine vM.of (by decide) rfl (Nat.le_of_ble_eq_true rfl) ?_
  intro p e s m args below meth c D dA C hin2
  refine (?_ : vO p l e (vR 7 0 0) s m args below meth c D dA (vA h0 z0) 3 False (fun r : (Hp × Int32) => MQ below (vQc False h0 z0 D dA r.1 z0 (some (.int r.2))) args s 0 0 (vAr False h0 z0)) 0 0 h0 z0 [(0, .ref a0), (1, .int p1), (2, .int p2)] 0 [] (FA_get h0 a0 p1 p2)) r hr
  obtain ⟨Q, hQ⟩ : ∃ Q : (Hp × Int32) → State → Prop, Q = (fun r : (Hp × Int32) => MQ below (vQc False h0 z0 D dA r.1 z0 (some (.int r.2))) args s 0 0 (vAr False h0 z0)) := ⟨_, rfl⟩
  rw [← hQ]
  unfold FA_get
  refine v_iload_n C dA_get_0 rfl 1 rfl ?_
  refine v_bind fun r1 hr1 => ?_
  refine v_callS0 (N := 1) (As := [.int p1]) (st := []) C (fun _ => trivial) (mA_isTree l h0 z0 p1 r1 hr1) rfl w_244 w_47 (by decide +kernel) ⟨Nat.le_of_ble_eq_true rfl, Nat.le_of_ble_eq_true rfl⟩ rfl rfl (Nat.le_of_ble_eq_true rfl) ⟨Nat.zero_le _, Nat.zero_le _⟩ w_242 w_243 dA_get_1 ?_
  refine v_if_ne (tgt := 10) C dA_get_4 (by decide) ?_ ?_
  · refine v_aload_n C dA_get_10 rfl 0 rfl ?_
    refine v_getR C v_cl4 (by decide) in_4 rfl w_212 dA_get_11 (fun a2 => ?_)
    refine v_iload_n C dA_get_14 rfl 1 rfl ?_
    refine v_gd fun hO3 => ?_
    refine v_bind fun r4 hr4 => ?_
    refine v_callV0 (N := 1) (As := [.int p1]) (st := []) C (fun _ => trivial) (mR_isInCodeOfOtherThan l h0 z0 a2 p1 r4 hr4) rfl w_402 w_48 (by decide +kernel) ⟨Nat.le_of_ble_eq_true rfl, Nat.le_of_ble_eq_true rfl⟩ rfl rfl (Nat.le_of_ble_eq_true rfl) ⟨Nat.zero_le _, Nat.zero_le _⟩ w_399 w_400 w_401 v_cl2 rfl hO3 dA_get_15 ?_
    refine v_if_eq (tgt := 24) C dA_get_18 (by decide) ?_ ?_
    · refine v_aload_n C dA_get_24 rfl 0 rfl ?_
      refine v_iload_n C dA_get_25 rfl 1 rfl ?_
      refine v_iload_n C dA_get_26 rfl 2 rfl ?_
      refine v_jn (fun (j : Int32 → Int32 → Nat → Option (Hp × Int32)) => ∀ (y5 : Int32), ∀ (y6 : Int32), ∀ (b7 : Nat), vO p l e (vR 7 0 0) s m args below meth c D dA (vA h0 z0) 3 False Q 0 0 h0 z0 [] 35 [.int y5, .int y6, .ref b7] (j y5 y6 b7)) ?_ (fun j8 Hj8 => ?_)
      · intro y5 y6 b7
        refine v_gd fun hO9 => ?_
        refine v_bind fun r10 hr10 => ?_
        refine v_callV0 (N := 2) (As := [.int y6, .int y5]) (st := []) C (fun f => f.elim) (mA_readBit l h0 z0 b7 y6 y5 r10 hr10) rfl w_406 w_47 (by decide +kernel) ⟨Nat.le_of_ble_eq_true rfl, Nat.le_of_ble_eq_true rfl⟩ rfl rfl (Nat.le_of_ble_eq_true rfl) ⟨Nat.zero_le _, Nat.zero_le _⟩ w_403 w_405 w_15 v_cl4 rfl hO9 dA_get_35 ?_
        exact v_iret C dA_get_38 (by rw [hQ])
      · refine v_if_eq (tgt := 34) C dA_get_27 (by decide) ?_ ?_
        · refine v_iconst (v := 0) C dA_get_34 (by decide) ?_
          refine v_lv (lv' := []) [] rfl ?_
          exact Hj8 0 p1 a0
        · refine v_iconst (v := 1) C dA_get_30 (by decide) ?_
          refine v_goto (tgt := 35) C dA_get_31 (by decide) ?_
          refine v_lv (lv' := []) [] rfl ?_
          exact Hj8 1 p1 a0
    · refine v_bipush (v := (-4)) C dA_get_21 (by decide) ?_
      exact v_iret C dA_get_23 (by rw [hQ])
  · refine v_bipush (v := (-2)) C dA_get_7 (by decide) ?_
    exact v_iret C dA_get_9 (by rw [hQ])
theorem dA_pull_0 : decode prog_1_method_9_code 0 = .ok (.iload_n 1, 1) := by decide +kernel
theorem dA_pull_1 : decode prog_1_method_9_code 1 = .ok (.invokestatic 83, 3) := by decide +kernel
theorem dA_pull_4 : decode prog_1_method_9_code 4 = .ok (.ifCond .ne 6, 3) := by decide +kernel
theorem dA_pull_7 : decode prog_1_method_9_code 7 = .ok (.bipush (-2), 2) := by decide +kernel
theorem dA_pull_9 : decode prog_1_method_9_code 9 = .ok (.ireturn, 1) := by decide +kernel
theorem dA_pull_10 : decode prog_1_method_9_code 10 = .ok (.aload_n 0, 1) := by decide +kernel
theorem dA_pull_11 : decode prog_1_method_9_code 11 = .ok (.getfield 42, 3) := by decide +kernel
theorem dA_pull_14 : decode prog_1_method_9_code 14 = .ok (.iload_n 1, 1) := by decide +kernel
theorem dA_pull_15 : decode prog_1_method_9_code 15 = .ok (.invokevirtual 117, 3) := by decide +kernel
theorem dA_pull_18 : decode prog_1_method_9_code 18 = .ok (.ifCond .eq 6, 3) := by decide +kernel
theorem dA_pull_21 : decode prog_1_method_9_code 21 = .ok (.bipush (-4), 2) := by decide +kernel
theorem dA_pull_23 : decode prog_1_method_9_code 23 = .ok (.ireturn, 1) := by decide +kernel
theorem dA_pull_24 : decode prog_1_method_9_code 24 = .ok (.aload_n 0, 1) := by decide +kernel
theorem dA_pull_25 : decode prog_1_method_9_code 25 = .ok (.getfield 33, 3) := by decide +kernel
theorem dA_pull_28 : decode prog_1_method_9_code 28 = .ok (.aload_n 0, 1) := by decide +kernel
theorem dA_pull_29 : decode prog_1_method_9_code 29 = .ok (.getfield 29, 3) := by decide +kernel
theorem dA_pull_32 : decode prog_1_method_9_code 32 = .ok (.if_icmp .ge 40, 3) := by decide +kernel
theorem dA_pull_35 : decode prog_1_method_9_code 35 = .ok (.aload_n 0, 1) := by decide +kernel
theorem dA_pull_36 : decode prog_1_method_9_code 36 = .ok (.getfield 25, 3) := by decide +kernel
theorem dA_pull_39 : decode prog_1_method_9_code 39 = .ok (.aload_n 0, 1) := by decide +kernel
theorem dA_pull_40 : decode prog_1_method_9_code 40 = .ok (.getfield 33, 3) := by decide +kernel
theorem dA_pull_43 : decode prog_1_method_9_code 43 = .ok (.iaload, 1) := by decide +kernel
theorem dA_pull_44 : decode prog_1_method_9_code 44 = .ok (.istore_n 2, 1) := by decide +kernel
theorem dA_pull_45 : decode prog_1_method_9_code 45 = .ok (.aload_n 0, 1) := by decide +kernel
theorem dA_pull_46 : decode prog_1_method_9_code 46 = .ok (.dup, 1) := by decide +kernel
theorem dA_pull_47 : decode prog_1_method_9_code 47 = .ok (.getfield 33, 3) := by decide +kernel
theorem dA_pull_50 : decode prog_1_method_9_code 50 = .ok (.iconst 1, 1) := by decide +kernel
theorem dA_pull_51 : decode prog_1_method_9_code 51 = .ok (.iadd, 1) := by decide +kernel
theorem dA_pull_52 : decode prog_1_method_9_code 52 = .ok (.putfield 33, 3) := by decide +kernel
theorem dA_pull_55 : decode prog_1_method_9_code 55 = .ok (.aload_n 0, 1) := by decide +kernel
theorem dA_pull_56 : decode prog_1_method_9_code 56 = .ok (.iload_n 1, 1) := by decide +kernel
theorem dA_pull_57 : decode prog_1_method_9_code 57 = .ok (.iload_n 2, 1) := by decide +kernel
theorem dA_pull_58 : decode prog_1_method_9_code 58 = .ok (.invokevirtual 120, 3) := by decide +kernel
theorem dA_pull_61 : decode prog_1_method_9_code 61 = .ok (.istore_n 3, 1) := by decide +kernel
theorem dA_pull_62 : decode prog_1_method_9_code 62 = .ok (.iload_n 3, 1) := by decide +kernel
theorem dA_pull_63 : decode prog_1_method_9_code 63 = .ok (.iconst (-1), 1) := by decide +kernel
theorem dA_pull_64 : decode prog_1_method_9_code 64 = .ok (.if_icmp .eq 5, 3) := by decide +kernel
theorem dA_pull_67 : decode prog_1_method_9_code 67 = .ok (.iload_n 3, 1) := by decide +kernel
theorem dA_pull_68 : decode prog_1_method_9_code 68 = .ok (.ireturn, 1) := by decide +kernel
theorem dA_pull_69 : decode prog_1_method_9_code 69 = .ok (.goto (-45), 3) := by decide +kernel
theorem dA_pull_72 : decode prog_1_method_9_code 72 = .ok (.iconst (-1), 1) := by decide +kernel
theorem dA_pull_73 : decode prog_1_method_9_code 73 = .ok (.ireturn, 1) := by decide +kernel
def LA_pull_24 (a0 : Nat) (p1 : Int32) (K6 : Hp → Option (Hp × Int32)) (K9 : Hp → Int32 → Option (Hp × Int32)) (rec11 : Hp → Option (Hp × Int32)) (h10 : Hp) : Option (Hp × Int32) :=
  gI h10 a0 4 8 (fun x12 =>
  gI h10 a0 4 7 (fun x13 =>
  if x13 ≤ x12 then
    (K6 h10)
  else
    (gR h10 a0 4 6 (fun a14 =>
    gI h10 a0 4 8 (fun x15 =>
    ldI h10 a14 0 x15 (fun x16 =>
    gI h10 a0 4 8 (fun x17 =>
    pF h10 a0 4 8 (.int (x17 + 1)) (fun h18 =>
    gd (isO h18 a0 4 = true) ((FA_readBit h18 a0 p1 x16).bind (fun r20 =>
    if r20.2 = (-1) then
      (rec11 r20.1)
    else
      (K9 r20.1 r20.2)))))))))))
def FA_pull (h0 : Hp) (a0 : Nat) (p1 : Int32) : Option (Hp × Int32) :=
  (FA_isTree h0 p1).bind (fun r1 =>
  if r1 = 0 then
    (some (h0, (-2)))
  else
    (gR h0 a0 4 11 (fun a2 =>
    gd (isO h0 a2 2 = true) ((FR_isInCodeOfOtherThan h0 a2 p1).bind (fun r4 =>
    if r4 = 0 then
      (jn (fun (h5 : Hp) =>
      some (h5, (-1)))
      (fun (K6 : Hp → Option (Hp × Int32)) =>
      jn (fun (h7 : Hp) (x8 : Int32) =>
      some (h7, x8))
      (fun (K9 : Hp → Int32 → Option (Hp × Int32)) =>
      lpG (fun _ => none) fu (LA_pull_24 a0 p1 K6 K9) h0)))
    else
      (some (h0, (-4))))))))
set_option maxRecDepth 100000 in
set_option maxHeartbeats 4000000 in
theorem mA_pull (l : Launch) (h0 : Hp) (z0 : Nat) (a0 : Nat) (p1 : Int32) (r : (Hp × Int32)) (hr : FA_pull h0 a0 p1 = some r) : vM False l yA_pull (Cond.code yA_pull prog_1_method_9_code 4 (some (.int)) :: gW) 7 [.ref a0, .int p1] h0 z0 r.1 z0 (some (.int r.2)) 0 0 := by
  refine vM.of (by decide) rfl (Nat.le_of_ble_eq_true rfl) ?_
  intro p e s m args below meth c D dA C hin2
  refine (?_ : vO p l e (vR 7 0 0) s m args below meth c D dA (vA h0 z0) 4 False (fun r : (Hp × Int32) => MQ below (vQc False h0 z0 D dA r.1 z0 (some (.int r.2))) args s 0 0 (vAr False h0 z0)) 0 0 h0 z0 [(0, .ref a0), (1, .int p1)] 0 [] (FA_pull h0 a0 p1)) r hr
  obtain ⟨Q, hQ⟩ : ∃ Q : (Hp × Int32) → State → Prop, Q = (fun r : (Hp × Int32) => MQ below (vQc False h0 z0 D dA r.1 z0 (some (.int r.2))) args s 0 0 (vAr False h0 z0)) := ⟨_, rfl⟩
  rw [← hQ]
  unfold FA_pull
  refine v_iload_n C dA_pull_0 rfl 1 rfl ?_
  refine v_bind fun r1 hr1 => ?_
  refine v_callS0 (N := 1) (As := [.int p1]) (st := []) C (fun _ => trivial) (mA_isTree l h0 z0 p1 r1 hr1) rfl w_244 w_47 (by decide +kernel) ⟨Nat.le_of_ble_eq_true rfl, Nat.le_of_ble_eq_true rfl⟩ rfl rfl (Nat.le_of_ble_eq_true rfl) ⟨Nat.zero_le _, Nat.zero_le _⟩ w_242 w_243 dA_pull_1 ?_
  refine v_if_ne (tgt := 10) C dA_pull_4 (by decide) ?_ ?_
  · refine v_aload_n C dA_pull_10 rfl 0 rfl ?_
    refine v_getR C v_cl4 (by decide) in_4 rfl w_212 dA_pull_11 (fun a2 => ?_)
    refine v_iload_n C dA_pull_14 rfl 1 rfl ?_
    refine v_gd fun hO3 => ?_
    refine v_bind fun r4 hr4 => ?_
    refine v_callV0 (N := 1) (As := [.int p1]) (st := []) C (fun _ => trivial) (mR_isInCodeOfOtherThan l h0 z0 a2 p1 r4 hr4) rfl w_402 w_48 (by decide +kernel) ⟨Nat.le_of_ble_eq_true rfl, Nat.le_of_ble_eq_true rfl⟩ rfl rfl (Nat.le_of_ble_eq_true rfl) ⟨Nat.zero_le _, Nat.zero_le _⟩ w_399 w_400 w_401 v_cl2 rfl hO3 dA_pull_15 ?_
    refine v_if_eq (tgt := 24) C dA_pull_18 (by decide) ?_ ?_
    · refine v_jn (fun (j : Hp → Option (Hp × Int32)) => ∀ (h5 : Hp), vO p l e (vR 7 0 0) s m args below meth c D dA (vA h0 z0) 4 False Q 0 0 h5 z0 [] 72 [] (j h5)) ?_ (fun K6 HK6 => ?_)
      · intro h5
        refine v_iconst (v := (-1)) C dA_pull_72 (by decide) ?_
        exact v_iret C dA_pull_73 (by rw [hQ])
      · refine v_jn (fun (j : Hp → Int32 → Option (Hp × Int32)) => ∀ (h7 : Hp), ∀ (x8 : Int32), vO p l e (vR 7 0 0) s m args below meth c D dA (vA h0 z0) 4 False Q 0 0 h7 z0 [(3, .int x8)] 67 [] (j h7 x8)) ?_ (fun K9 HK9 => ?_)
        · intro h7 x8
          refine v_iload_n C dA_pull_67 rfl 0 rfl ?_
          exact v_iret C dA_pull_68 (by rw [hQ])
        · refine lpG_ind (bot := (fun _ => none)) (B := LA_pull_24 a0 p1 K6 K9) (fun (r : Hp → Option (Hp × Int32)) => ∀ (h10 : Hp), vO p l e (vR 7 0 0) s m args below meth c D dA (vA h0 z0) 4 False Q 0 0 h10 z0 [(0, .ref a0), (1, .int p1)] 24 [] (r h10)) ?_ ?_ fu h0
          · intro h10
            exact v_none
          · intro rec11 Hrec11 h10
            unfold LA_pull_24
            refine v_aload_n C dA_pull_24 rfl 0 rfl ?_
            refine v_getI C v_cl4 (by decide) in_4 rfl w_209 dA_pull_25 (fun x12 => ?_)
            refine v_aload_n C dA_pull_28 rfl 0 rfl ?_
            refine v_getI C v_cl4 (by decide) in_4 rfl w_208 dA_pull_29 (fun x13 => ?_)
            refine v_icmp_ge (tgt := 72) C dA_pull_32 (by decide) ?_ ?_
            · refine v_lv (lv' := []) [] rfl ?_
              exact HK6 h10
            · refine v_aload_n C dA_pull_35 rfl 0 rfl ?_
              refine v_getR C v_cl4 (by decide) in_4 rfl w_207 dA_pull_36 (fun a14 => ?_)
              refine v_aload_n C dA_pull_39 rfl 0 rfl ?_
              refine v_getI C v_cl4 (by decide) in_4 rfl w_209 dA_pull_40 (fun x15 => ?_)
              refine v_iald C rfl dA_pull_43 (fun x16 => ?_)
              refine v_istore_n (lv' := [(0, .ref a0), (1, .int p1), (2, .int x16)]) C dA_pull_44 rfl (by decide) [1, 2, 0] rfl ?_
              refine v_aload_n C dA_pull_45 rfl 0 rfl ?_
              refine v_dup C dA_pull_46 rfl ?_
              refine v_getI C v_cl4 (by decide) in_4 rfl w_209 dA_pull_47 (fun x17 => ?_)
              refine v_iconst (v := 1) C dA_pull_50 (by decide) ?_
              refine v_iadd C dA_pull_51 ?_
              refine v_put C v_cl4 (by decide) in_4 ty_4 ty_4_ok nm_4 rfl w_209 rfl (ty := .int) (by decide +kernel) rfl rfl dA_pull_52 (fun h18 => ?_)
              refine v_aload_n C dA_pull_55 rfl 0 rfl ?_
              refine v_iload_n C dA_pull_56 rfl 1 rfl ?_
              refine v_iload_n C dA_pull_57 rfl 2 rfl ?_
              refine v_gd fun hO19 => ?_
              refine v_bind fun r20 hr20 => ?_
              refine v_callV0 (N := 2) (As := [.int p1, .int x16]) (st := []) C (fun f => f.elim) (mA_readBit l h18 z0 a0 p1 x16 r20 hr20) rfl w_406 w_47 (by decide +kernel) ⟨Nat.le_of_ble_eq_true rfl, Nat.le_of_ble_eq_true rfl⟩ rfl rfl (Nat.le_of_ble_eq_true rfl) ⟨Nat.zero_le _, Nat.zero_le _⟩ w_403 w_405 w_15 v_cl4 rfl hO19 dA_pull_58 ?_
              refine v_istore_n (lv' := [(0, .ref a0), (1, .int p1), (3, .int r20.2)]) C dA_pull_61 rfl (by decide) [1, 2, 0] rfl ?_
              refine v_iload_n C dA_pull_62 rfl 2 rfl ?_
              refine v_iconst (v := (-1)) C dA_pull_63 (by decide) ?_
              refine v_icmp_eq (tgt := 69) C dA_pull_64 (by decide) ?_ ?_
              · refine v_goto (tgt := 24) C dA_pull_69 (by decide) ?_
                refine v_lv (lv' := [(0, .ref a0), (1, .int p1)]) [0, 1] rfl ?_
                exact Hrec11 r20.1
              · refine v_lv (lv' := [(3, .int r20.2)]) [2] rfl ?_
                exact HK9 r20.1 r20.2
    · refine v_bipush (v := (-4)) C dA_pull_21 (by decide) ?_
      exact v_iret C dA_pull_23 (by rw [hQ])
  · refine v_bipush (v := (-2)) C dA_pull_7 (by decide) ?_
    exact v_iret C dA_pull_9 (by rw [hQ])
theorem dA_pulled_0 : decode prog_1_method_10_code 0 = .ok (.aload_n 0, 1) := by decide +kernel
theorem dA_pulled_1 : decode prog_1_method_10_code 1 = .ok (.getfield 33, 3) := by decide +kernel
theorem dA_pulled_4 : decode prog_1_method_10_code 4 = .ok (.ireturn, 1) := by decide +kernel
def FA_pulled (h0 : Hp) (a0 : Nat) : Option Int32 :=
  gI h0 a0 4 8 (fun x1 =>
  some x1)
set_option maxRecDepth 100000 in
set_option maxHeartbeats 4000000 in
theorem mA_pulled (l : Launch) (h0 : Hp) (z0 : Nat) (a0 : Nat) (r : Int32) (hr : FA_pulled h0 a0 = some r) : vM True l yA_pulled (Cond.code yA_pulled prog_1_method_10_code 1 (some (.int)) :: gW) 0 [.ref a0] h0 z0 h0 z0 (some (.int r)) 0 0 := by
  refine vM.of (by decide) rfl (Nat.le_of_ble_eq_true rfl) ?_
  intro p e s m args below meth c D dA C hin2
  refine (?_ : vO p l e (vR 0 0 0) s m args below meth c D dA (vA h0 z0) 1 True (fun r : Int32 => MQ below (vQc True h0 z0 D dA h0 z0 (some (.int r))) args s 0 0 (vAr True h0 z0)) 0 0 h0 z0 [(0, .ref a0)] 0 [] (FA_pulled h0 a0)) r hr
  obtain ⟨Q, hQ⟩ : ∃ Q : Int32 → State → Prop, Q = (fun r : Int32 => MQ below (vQc True h0 z0 D dA h0 z0 (some (.int r))) args s 0 0 (vAr True h0 z0)) := ⟨_, rfl⟩
  rw [← hQ]
  unfold FA_pulled
  refine v_aload_n C dA_pulled_0 rfl 0 rfl ?_
  refine v_getI C v_cl4 (by decide) in_4 rfl w_209 dA_pulled_1 (fun x1 => ?_)
  exact v_iret C dA_pulled_4 (by rw [hQ])
