theorem dM_signAt_0 : decode prog_7_method_11_code 0 = .ok (.aload_n 0, 1) := by decide +kernel
theorem dM_signAt_1 : decode prog_7_method_11_code 1 = .ok (.getfield 29, 3) := by decide +kernel
theorem dM_signAt_4 : decode prog_7_method_11_code 4 = .ok (.sipush 129, 3) := by decide +kernel
theorem dM_signAt_7 : decode prog_7_method_11_code 7 = .ok (.iload_n 1, 1) := by decide +kernel
theorem dM_signAt_8 : decode prog_7_method_11_code 8 = .ok (.imul, 1) := by decide +kernel
theorem dM_signAt_9 : decode prog_7_method_11_code 9 = .ok (.aload_n 0, 1) := by decide +kernel
theorem dM_signAt_10 : decode prog_7_method_11_code 10 = .ok (.getfield 23, 3) := by decide +kernel
theorem dM_signAt_13 : decode prog_7_method_11_code 13 = .ok (.sipush 129, 3) := by decide +kernel
theorem dM_signAt_16 : decode prog_7_method_11_code 16 = .ok (.iload_n 1, 1) := by decide +kernel
theorem dM_signAt_17 : decode prog_7_method_11_code 17 = .ok (.imul, 1) := by decide +kernel
theorem dM_signAt_18 : decode prog_7_method_11_code 18 = .ok (.iload_n 2, 1) := by decide +kernel
theorem dM_signAt_19 : decode prog_7_method_11_code 19 = .ok (.iadd, 1) := by decide +kernel
theorem dM_signAt_20 : decode prog_7_method_11_code 20 = .ok (.iaload, 1) := by decide +kernel
theorem dM_signAt_21 : decode prog_7_method_11_code 21 = .ok (.iadd, 1) := by decide +kernel
theorem dM_signAt_22 : decode prog_7_method_11_code 22 = .ok (.iaload, 1) := by decide +kernel
theorem dM_signAt_23 : decode prog_7_method_11_code 23 = .ok (.ireturn, 1) := by decide +kernel
def FM_signAt (h0 : Hp) (a0 : Nat) (p1 : Int32) (p2 : Int32) : Option Int32 :=
  gR h0 a0 5 9 (fun a1 =>
  gR h0 a0 5 7 (fun a2 =>
  ldI h0 a2 0 ((129 * p1) + p2) (fun x3 =>
  ldI h0 a1 0 ((129 * p1) + x3) (fun x4 =>
  some x4))))
set_option maxRecDepth 100000 in
set_option maxHeartbeats 4000000 in
theorem mM_signAt (l : Launch) (h0 : Hp) (z0 : Nat) (a0 : Nat) (p1 : Int32) (p2 : Int32) (r : Int32) (hr : FM_signAt h0 a0 p1 p2 = some r) : vM True l yM_signAt (Cond.code yM_signAt prog_7_method_11_code 3 (some (.int)) :: gW) 0 [.ref a0, .int p1, .int p2] h0 z0 h0 z0 (some (.int r)) 0 0 := by
  refine vM.of (by decide) rfl (Nat.le_of_ble_eq_true rfl) ?_
  intro p e s m args below meth c D dA C hin2
  refine (?_ : vO p l e (vR 0 0 0) s m args below meth c D dA (vA h0 z0) 3 True (fun r : Int32 => MQ below (vQc True h0 z0 D dA h0 z0 (some (.int r))) args s 0 0 (vAr True h0 z0)) 0 0 h0 z0 [(0, .ref a0), (1, .int p1), (2, .int p2)] 0 [] (FM_signAt h0 a0 p1 p2)) r hr
  obtain ⟨Q, hQ⟩ : ∃ Q : Int32 → State → Prop, Q = (fun r : Int32 => MQ below (vQc True h0 z0 D dA h0 z0 (some (.int r))) args s 0 0 (vAr True h0 z0)) := ⟨_, rfl⟩
  rw [← hQ]
  unfold FM_signAt
  refine v_aload_n C dM_signAt_0 rfl 0 rfl ?_
  refine v_getR C v_cl5 (by decide) in_5 rfl w_618 dM_signAt_1 (fun a1 => ?_)
  refine v_sipush (v := 129) C dM_signAt_4 (by decide) ?_
  refine v_iload_n C dM_signAt_7 rfl 1 rfl ?_
  refine v_imul C dM_signAt_8 ?_
  refine v_aload_n C dM_signAt_9 rfl 0 rfl ?_
  refine v_getR C v_cl5 (by decide) in_5 rfl w_616 dM_signAt_10 (fun a2 => ?_)
  refine v_sipush (v := 129) C dM_signAt_13 (by decide) ?_
  refine v_iload_n C dM_signAt_16 rfl 1 rfl ?_
  refine v_imul C dM_signAt_17 ?_
  refine v_iload_n C dM_signAt_18 rfl 2 rfl ?_
  refine v_iadd C dM_signAt_19 ?_
  refine v_iald C rfl dM_signAt_20 (fun x3 => ?_)
  refine v_iadd C dM_signAt_21 ?_
  refine v_iald C rfl dM_signAt_22 (fun x4 => ?_)
  exact v_iret C dM_signAt_23 (by rw [hQ])
theorem dM_comes_0 : decode prog_7_method_12_code 0 = .ok (.aload_n 0, 1) := by decide +kernel
theorem dM_comes_1 : decode prog_7_method_12_code 1 = .ok (.getfield 26, 3) := by decide +kernel
theorem dM_comes_4 : decode prog_7_method_12_code 4 = .ok (.sipush 129, 3) := by decide +kernel
theorem dM_comes_7 : decode prog_7_method_12_code 7 = .ok (.iload_n 1, 1) := by decide +kernel
theorem dM_comes_8 : decode prog_7_method_12_code 8 = .ok (.imul, 1) := by decide +kernel
theorem dM_comes_9 : decode prog_7_method_12_code 9 = .ok (.iload_n 2, 1) := by decide +kernel
theorem dM_comes_10 : decode prog_7_method_12_code 10 = .ok (.iadd, 1) := by decide +kernel
theorem dM_comes_11 : decode prog_7_method_12_code 11 = .ok (.iconst 0, 1) := by decide +kernel
theorem dM_comes_12 : decode prog_7_method_12_code 12 = .ok (.iastore, 1) := by decide +kernel
theorem dM_comes_13 : decode prog_7_method_12_code 13 = .ok (.aload_n 0, 1) := by decide +kernel
theorem dM_comes_14 : decode prog_7_method_12_code 14 = .ok (.getfield 29, 3) := by decide +kernel
theorem dM_comes_17 : decode prog_7_method_12_code 17 = .ok (.sipush 129, 3) := by decide +kernel
theorem dM_comes_20 : decode prog_7_method_12_code 20 = .ok (.iload_n 1, 1) := by decide +kernel
theorem dM_comes_21 : decode prog_7_method_12_code 21 = .ok (.imul, 1) := by decide +kernel
theorem dM_comes_22 : decode prog_7_method_12_code 22 = .ok (.iload_n 2, 1) := by decide +kernel
theorem dM_comes_23 : decode prog_7_method_12_code 23 = .ok (.iadd, 1) := by decide +kernel
theorem dM_comes_24 : decode prog_7_method_12_code 24 = .ok (.iload_n 3, 1) := by decide +kernel
theorem dM_comes_25 : decode prog_7_method_12_code 25 = .ok (.iastore, 1) := by decide +kernel
theorem dM_comes_26 : decode prog_7_method_12_code 26 = .ok (.aload_n 0, 1) := by decide +kernel
theorem dM_comes_27 : decode prog_7_method_12_code 27 = .ok (.getfield 23, 3) := by decide +kernel
theorem dM_comes_30 : decode prog_7_method_12_code 30 = .ok (.sipush 129, 3) := by decide +kernel
theorem dM_comes_33 : decode prog_7_method_12_code 33 = .ok (.iload_n 1, 1) := by decide +kernel
theorem dM_comes_34 : decode prog_7_method_12_code 34 = .ok (.imul, 1) := by decide +kernel
theorem dM_comes_35 : decode prog_7_method_12_code 35 = .ok (.aload_n 0, 1) := by decide +kernel
theorem dM_comes_36 : decode prog_7_method_12_code 36 = .ok (.getfield 13, 3) := by decide +kernel
theorem dM_comes_39 : decode prog_7_method_12_code 39 = .ok (.iload_n 1, 1) := by decide +kernel
theorem dM_comes_40 : decode prog_7_method_12_code 40 = .ok (.iaload, 1) := by decide +kernel
theorem dM_comes_41 : decode prog_7_method_12_code 41 = .ok (.iadd, 1) := by decide +kernel
theorem dM_comes_42 : decode prog_7_method_12_code 42 = .ok (.iload_n 2, 1) := by decide +kernel
theorem dM_comes_43 : decode prog_7_method_12_code 43 = .ok (.iastore, 1) := by decide +kernel
theorem dM_comes_44 : decode prog_7_method_12_code 44 = .ok (.aload_n 0, 1) := by decide +kernel
theorem dM_comes_45 : decode prog_7_method_12_code 45 = .ok (.getfield 13, 3) := by decide +kernel
theorem dM_comes_48 : decode prog_7_method_12_code 48 = .ok (.iload_n 1, 1) := by decide +kernel
theorem dM_comes_49 : decode prog_7_method_12_code 49 = .ok (.dup2, 1) := by decide +kernel
theorem dM_comes_50 : decode prog_7_method_12_code 50 = .ok (.iaload, 1) := by decide +kernel
theorem dM_comes_51 : decode prog_7_method_12_code 51 = .ok (.iconst 1, 1) := by decide +kernel
theorem dM_comes_52 : decode prog_7_method_12_code 52 = .ok (.iadd, 1) := by decide +kernel
theorem dM_comes_53 : decode prog_7_method_12_code 53 = .ok (.iastore, 1) := by decide +kernel
theorem dM_comes_54 : decode prog_7_method_12_code 54 = .ok (.return_, 1) := by decide +kernel
def FM_comes (h0 : Hp) (a0 : Nat) (p1 : Int32) (p2 : Int32) (p3 : Int32) : Option Hp :=
  gR h0 a0 5 8 (fun a1 =>
  stI h0 a1 0 ((129 * p1) + p2) 0 (fun h2 =>
  gR h2 a0 5 9 (fun a3 =>
  stI h2 a3 0 ((129 * p1) + p2) p3 (fun h4 =>
  gR h4 a0 5 7 (fun a5 =>
  gR h4 a0 5 4 (fun a6 =>
  ldI h4 a6 0 p1 (fun x7 =>
  stI h4 a5 0 ((129 * p1) + x7) p2 (fun h8 =>
  gR h8 a0 5 4 (fun a9 =>
  ldI h8 a9 0 p1 (fun x10 =>
  stI h8 a9 0 p1 (x10 + 1) (fun h11 =>
  some h11)))))))))))
set_option maxRecDepth 100000 in
set_option maxHeartbeats 4000000 in
theorem mM_comes (l : Launch) (h0 : Hp) (z0 : Nat) (a0 : Nat) (p1 : Int32) (p2 : Int32) (p3 : Int32) (r : Hp) (hr : FM_comes h0 a0 p1 p2 p3 = some r) : vM False l yM_comes (Cond.code yM_comes prog_7_method_12_code 4 none :: gW) 0 [.ref a0, .int p1, .int p2, .int p3] h0 z0 r z0 none 0 0 := by
  refine vM.of (by decide) rfl (Nat.le_of_ble_eq_true rfl) ?_
  intro p e s m args below meth c D dA C hin2
  refine (?_ : vO p l e (vR 0 0 0) s m args below meth c D dA (vA h0 z0) 4 False (fun r : Hp => MQ below (vQc False h0 z0 D dA r z0 none) args s 0 0 (vAr False h0 z0)) 0 0 h0 z0 [(0, .ref a0), (1, .int p1), (2, .int p2), (3, .int p3)] 0 [] (FM_comes h0 a0 p1 p2 p3)) r hr
  obtain ⟨Q, hQ⟩ : ∃ Q : Hp → State → Prop, Q = (fun r : Hp => MQ below (vQc False h0 z0 D dA r z0 none) args s 0 0 (vAr False h0 z0)) := ⟨_, rfl⟩
  rw [← hQ]
  unfold FM_comes
  refine v_aload_n C dM_comes_0 rfl 0 rfl ?_
  refine v_getR C v_cl5 (by decide) in_5 rfl w_617 dM_comes_1 (fun a1 => ?_)
  refine v_sipush (v := 129) C dM_comes_4 (by decide) ?_
  refine v_iload_n C dM_comes_7 rfl 1 rfl ?_
  refine v_imul C dM_comes_8 ?_
  refine v_iload_n C dM_comes_9 rfl 2 rfl ?_
  refine v_iadd C dM_comes_10 ?_
  refine v_iconst (v := 0) C dM_comes_11 (by decide) ?_
  refine v_iast C rfl dM_comes_12 (fun h2 => ?_)
  refine v_aload_n C dM_comes_13 rfl 0 rfl ?_
  refine v_getR C v_cl5 (by decide) in_5 rfl w_618 dM_comes_14 (fun a3 => ?_)
  refine v_sipush (v := 129) C dM_comes_17 (by decide) ?_
  refine v_iload_n C dM_comes_20 rfl 1 rfl ?_
  refine v_imul C dM_comes_21 ?_
  refine v_iload_n C dM_comes_22 rfl 2 rfl ?_
  refine v_iadd C dM_comes_23 ?_
  refine v_iload_n C dM_comes_24 rfl 3 rfl ?_
  refine v_iast C rfl dM_comes_25 (fun h4 => ?_)
  refine v_aload_n C dM_comes_26 rfl 0 rfl ?_
  refine v_getR C v_cl5 (by decide) in_5 rfl w_616 dM_comes_27 (fun a5 => ?_)
  refine v_sipush (v := 129) C dM_comes_30 (by decide) ?_
  refine v_iload_n C dM_comes_33 rfl 1 rfl ?_
  refine v_imul C dM_comes_34 ?_
  refine v_aload_n C dM_comes_35 rfl 0 rfl ?_
  refine v_getR C v_cl5 (by decide) in_5 rfl w_613 dM_comes_36 (fun a6 => ?_)
  refine v_iload_n C dM_comes_39 rfl 1 rfl ?_
  refine v_iald C rfl dM_comes_40 (fun x7 => ?_)
  refine v_iadd C dM_comes_41 ?_
  refine v_iload_n C dM_comes_42 rfl 2 rfl ?_
  refine v_iast C rfl dM_comes_43 (fun h8 => ?_)
  refine v_aload_n C dM_comes_44 rfl 0 rfl ?_
  refine v_getR C v_cl5 (by decide) in_5 rfl w_613 dM_comes_45 (fun a9 => ?_)
  refine v_iload_n C dM_comes_48 rfl 1 rfl ?_
  refine v_dup2 C dM_comes_49 rfl rfl ?_
  refine v_iald C rfl dM_comes_50 (fun x10 => ?_)
  refine v_iconst (v := 1) C dM_comes_51 (by decide) ?_
  refine v_iadd C dM_comes_52 ?_
  refine v_iast C rfl dM_comes_53 (fun h11 => ?_)
  exact v_vret C dM_comes_54 (by rw [hQ])
theorem dM_halve_0 : decode prog_7_method_14_code 0 = .ok (.iconst 0, 1) := by decide +kernel
theorem dM_halve_1 : decode prog_7_method_14_code 1 = .ok (.istore_n 2, 1) := by decide +kernel
theorem dM_halve_2 : decode prog_7_method_14_code 2 = .ok (.iconst 0, 1) := by decide +kernel
theorem dM_halve_3 : decode prog_7_method_14_code 3 = .ok (.istore_n 3, 1) := by decide +kernel
theorem dM_halve_4 : decode prog_7_method_14_code 4 = .ok (.iload_n 3, 1) := by decide +kernel
theorem dM_halve_5 : decode prog_7_method_14_code 5 = .ok (.aload_n 0, 1) := by decide +kernel
theorem dM_halve_6 : decode prog_7_method_14_code 6 = .ok (.getfield 13, 3) := by decide +kernel
theorem dM_halve_9 : decode prog_7_method_14_code 9 = .ok (.iload_n 1, 1) := by decide +kernel
theorem dM_halve_10 : decode prog_7_method_14_code 10 = .ok (.iaload, 1) := by decide +kernel
theorem dM_halve_11 : decode prog_7_method_14_code 11 = .ok (.if_icmp .ge 57, 3) := by decide +kernel
theorem dM_halve_14 : decode prog_7_method_14_code 14 = .ok (.aload_n 0, 1) := by decide +kernel
theorem dM_halve_15 : decode prog_7_method_14_code 15 = .ok (.iload_n 1, 1) := by decide +kernel
theorem dM_halve_16 : decode prog_7_method_14_code 16 = .ok (.iload_n 3, 1) := by decide +kernel
theorem dM_halve_17 : decode prog_7_method_14_code 17 = .ok (.invokevirtual 101, 3) := by decide +kernel
theorem dM_halve_20 : decode prog_7_method_14_code 20 = .ok (.iconst (-1), 1) := by decide +kernel
theorem dM_halve_21 : decode prog_7_method_14_code 21 = .ok (.if_icmp .eq 41, 3) := by decide +kernel
theorem dM_halve_24 : decode prog_7_method_14_code 24 = .ok (.aload_n 0, 1) := by decide +kernel
theorem dM_halve_25 : decode prog_7_method_14_code 25 = .ok (.getfield 47, 3) := by decide +kernel
theorem dM_halve_28 : decode prog_7_method_14_code 28 = .ok (.iload_n 2, 1) := by decide +kernel
theorem dM_halve_29 : decode prog_7_method_14_code 29 = .ok (.aload_n 0, 1) := by decide +kernel
theorem dM_halve_30 : decode prog_7_method_14_code 30 = .ok (.iload_n 1, 1) := by decide +kernel
theorem dM_halve_31 : decode prog_7_method_14_code 31 = .ok (.iload_n 3, 1) := by decide +kernel
theorem dM_halve_32 : decode prog_7_method_14_code 32 = .ok (.invokevirtual 94, 3) := by decide +kernel
theorem dM_halve_35 : decode prog_7_method_14_code 35 = .ok (.iconst 1, 1) := by decide +kernel
theorem dM_halve_36 : decode prog_7_method_14_code 36 = .ok (.iadd, 1) := by decide +kernel
theorem dM_halve_37 : decode prog_7_method_14_code 37 = .ok (.iconst 2, 1) := by decide +kernel
theorem dM_halve_38 : decode prog_7_method_14_code 38 = .ok (.idiv, 1) := by decide +kernel
theorem dM_halve_39 : decode prog_7_method_14_code 39 = .ok (.iastore, 1) := by decide +kernel
theorem dM_halve_40 : decode prog_7_method_14_code 40 = .ok (.aload_n 0, 1) := by decide +kernel
theorem dM_halve_41 : decode prog_7_method_14_code 41 = .ok (.getfield 50, 3) := by decide +kernel
theorem dM_halve_44 : decode prog_7_method_14_code 44 = .ok (.iload_n 2, 1) := by decide +kernel
theorem dM_halve_45 : decode prog_7_method_14_code 45 = .ok (.aload_n 0, 1) := by decide +kernel
theorem dM_halve_46 : decode prog_7_method_14_code 46 = .ok (.iload_n 1, 1) := by decide +kernel
theorem dM_halve_47 : decode prog_7_method_14_code 47 = .ok (.iload_n 3, 1) := by decide +kernel
theorem dM_halve_48 : decode prog_7_method_14_code 48 = .ok (.invokevirtual 101, 3) := by decide +kernel
theorem dM_halve_51 : decode prog_7_method_14_code 51 = .ok (.iastore, 1) := by decide +kernel
theorem dM_halve_52 : decode prog_7_method_14_code 52 = .ok (.aload_n 0, 1) := by decide +kernel
theorem dM_halve_53 : decode prog_7_method_14_code 53 = .ok (.getfield 44, 3) := by decide +kernel
theorem dM_halve_56 : decode prog_7_method_14_code 56 = .ok (.iload_n 2, 1) := by decide +kernel
theorem dM_halve_57 : decode prog_7_method_14_code 57 = .ok (.iload_n 2, 1) := by decide +kernel
theorem dM_halve_58 : decode prog_7_method_14_code 58 = .ok (.iastore, 1) := by decide +kernel
theorem dM_halve_59 : decode prog_7_method_14_code 59 = .ok (.iinc 2 1, 3) := by decide +kernel
theorem dM_halve_62 : decode prog_7_method_14_code 62 = .ok (.iinc 3 1, 3) := by decide +kernel
theorem dM_halve_65 : decode prog_7_method_14_code 65 = .ok (.goto (-61), 3) := by decide +kernel
theorem dM_halve_68 : decode prog_7_method_14_code 68 = .ok (.iload_n 2, 1) := by decide +kernel
theorem dM_halve_69 : decode prog_7_method_14_code 69 = .ok (.istore_n 3, 1) := by decide +kernel
theorem dM_halve_70 : decode prog_7_method_14_code 70 = .ok (.aload_n 0, 1) := by decide +kernel
theorem dM_halve_71 : decode prog_7_method_14_code 71 = .ok (.getfield 13, 3) := by decide +kernel
theorem dM_halve_74 : decode prog_7_method_14_code 74 = .ok (.iload_n 1, 1) := by decide +kernel
theorem dM_halve_75 : decode prog_7_method_14_code 75 = .ok (.iaload, 1) := by decide +kernel
theorem dM_halve_76 : decode prog_7_method_14_code 76 = .ok (.iconst 1, 1) := by decide +kernel
theorem dM_halve_77 : decode prog_7_method_14_code 77 = .ok (.isub, 1) := by decide +kernel
theorem dM_halve_78 : decode prog_7_method_14_code 78 = .ok (.istore 4, 2) := by decide +kernel
theorem dM_halve_80 : decode prog_7_method_14_code 80 = .ok (.iload_n 2, 1) := by decide +kernel
theorem dM_halve_81 : decode prog_7_method_14_code 81 = .ok (.iconst 1, 1) := by decide +kernel
theorem dM_halve_82 : decode prog_7_method_14_code 82 = .ok (.if_icmp .le 180, 3) := by decide +kernel
theorem dM_halve_85 : decode prog_7_method_14_code 85 = .ok (.aload_n 0, 1) := by decide +kernel
theorem dM_halve_86 : decode prog_7_method_14_code 86 = .ok (.getfield 23, 3) := by decide +kernel
theorem dM_halve_89 : decode prog_7_method_14_code 89 = .ok (.sipush 129, 3) := by decide +kernel
theorem dM_halve_92 : decode prog_7_method_14_code 92 = .ok (.iload_n 1, 1) := by decide +kernel
theorem dM_halve_93 : decode prog_7_method_14_code 93 = .ok (.imul, 1) := by decide +kernel
theorem dM_halve_94 : decode prog_7_method_14_code 94 = .ok (.iload 4, 2) := by decide +kernel
theorem dM_halve_96 : decode prog_7_method_14_code 96 = .ok (.iadd, 1) := by decide +kernel
theorem dM_halve_97 : decode prog_7_method_14_code 97 = .ok (.aload_n 0, 1) := by decide +kernel
theorem dM_halve_98 : decode prog_7_method_14_code 98 = .ok (.getfield 44, 3) := by decide +kernel
theorem dM_halve_101 : decode prog_7_method_14_code 101 = .ok (.iload_n 2, 1) := by decide +kernel
theorem dM_halve_102 : decode prog_7_method_14_code 102 = .ok (.iconst 1, 1) := by decide +kernel
theorem dM_halve_103 : decode prog_7_method_14_code 103 = .ok (.isub, 1) := by decide +kernel
theorem dM_halve_104 : decode prog_7_method_14_code 104 = .ok (.iaload, 1) := by decide +kernel
theorem dM_halve_105 : decode prog_7_method_14_code 105 = .ok (.iastore, 1) := by decide +kernel
theorem dM_halve_106 : decode prog_7_method_14_code 106 = .ok (.aload_n 0, 1) := by decide +kernel
theorem dM_halve_107 : decode prog_7_method_14_code 107 = .ok (.getfield 23, 3) := by decide +kernel
theorem dM_halve_110 : decode prog_7_method_14_code 110 = .ok (.sipush 129, 3) := by decide +kernel
theorem dM_halve_113 : decode prog_7_method_14_code 113 = .ok (.iload_n 1, 1) := by decide +kernel
theorem dM_halve_114 : decode prog_7_method_14_code 114 = .ok (.imul, 1) := by decide +kernel
theorem dM_halve_115 : decode prog_7_method_14_code 115 = .ok (.iload 4, 2) := by decide +kernel
theorem dM_halve_117 : decode prog_7_method_14_code 117 = .ok (.iadd, 1) := by decide +kernel
theorem dM_halve_118 : decode prog_7_method_14_code 118 = .ok (.iconst 1, 1) := by decide +kernel
theorem dM_halve_119 : decode prog_7_method_14_code 119 = .ok (.isub, 1) := by decide +kernel
theorem dM_halve_120 : decode prog_7_method_14_code 120 = .ok (.aload_n 0, 1) := by decide +kernel
theorem dM_halve_121 : decode prog_7_method_14_code 121 = .ok (.getfield 44, 3) := by decide +kernel
theorem dM_halve_124 : decode prog_7_method_14_code 124 = .ok (.iload_n 2, 1) := by decide +kernel
theorem dM_halve_125 : decode prog_7_method_14_code 125 = .ok (.iconst 2, 1) := by decide +kernel
theorem dM_halve_126 : decode prog_7_method_14_code 126 = .ok (.isub, 1) := by decide +kernel
theorem dM_halve_127 : decode prog_7_method_14_code 127 = .ok (.iaload, 1) := by decide +kernel
theorem dM_halve_128 : decode prog_7_method_14_code 128 = .ok (.iastore, 1) := by decide +kernel
theorem dM_halve_129 : decode prog_7_method_14_code 129 = .ok (.aload_n 0, 1) := by decide +kernel
theorem dM_halve_130 : decode prog_7_method_14_code 130 = .ok (.getfield 32, 3) := by decide +kernel
theorem dM_halve_133 : decode prog_7_method_14_code 133 = .ok (.bipush 64, 2) := by decide +kernel
theorem dM_halve_135 : decode prog_7_method_14_code 135 = .ok (.iload_n 1, 1) := by decide +kernel
theorem dM_halve_136 : decode prog_7_method_14_code 136 = .ok (.imul, 1) := by decide +kernel
theorem dM_halve_137 : decode prog_7_method_14_code 137 = .ok (.iload 4, 2) := by decide +kernel
theorem dM_halve_139 : decode prog_7_method_14_code 139 = .ok (.iconst 2, 1) := by decide +kernel
theorem dM_halve_140 : decode prog_7_method_14_code 140 = .ok (.isub, 1) := by decide +kernel
theorem dM_halve_141 : decode prog_7_method_14_code 141 = .ok (.iconst 2, 1) := by decide +kernel
theorem dM_halve_142 : decode prog_7_method_14_code 142 = .ok (.idiv, 1) := by decide +kernel
theorem dM_halve_143 : decode prog_7_method_14_code 143 = .ok (.iadd, 1) := by decide +kernel
theorem dM_halve_144 : decode prog_7_method_14_code 144 = .ok (.iload_n 3, 1) := by decide +kernel
theorem dM_halve_145 : decode prog_7_method_14_code 145 = .ok (.iastore, 1) := by decide +kernel
theorem dM_halve_146 : decode prog_7_method_14_code 146 = .ok (.aload_n 0, 1) := by decide +kernel
theorem dM_halve_147 : decode prog_7_method_14_code 147 = .ok (.getfield 47, 3) := by decide +kernel
theorem dM_halve_150 : decode prog_7_method_14_code 150 = .ok (.iload_n 3, 1) := by decide +kernel
theorem dM_halve_151 : decode prog_7_method_14_code 151 = .ok (.aload_n 0, 1) := by decide +kernel
theorem dM_halve_152 : decode prog_7_method_14_code 152 = .ok (.getfield 47, 3) := by decide +kernel
theorem dM_halve_155 : decode prog_7_method_14_code 155 = .ok (.aload_n 0, 1) := by decide +kernel
theorem dM_halve_156 : decode prog_7_method_14_code 156 = .ok (.getfield 44, 3) := by decide +kernel
theorem dM_halve_159 : decode prog_7_method_14_code 159 = .ok (.iload_n 2, 1) := by decide +kernel
theorem dM_halve_160 : decode prog_7_method_14_code 160 = .ok (.iconst 1, 1) := by decide +kernel
theorem dM_halve_161 : decode prog_7_method_14_code 161 = .ok (.isub, 1) := by decide +kernel
theorem dM_halve_162 : decode prog_7_method_14_code 162 = .ok (.iaload, 1) := by decide +kernel
theorem dM_halve_163 : decode prog_7_method_14_code 163 = .ok (.iaload, 1) := by decide +kernel
theorem dM_halve_164 : decode prog_7_method_14_code 164 = .ok (.aload_n 0, 1) := by decide +kernel
theorem dM_halve_165 : decode prog_7_method_14_code 165 = .ok (.getfield 47, 3) := by decide +kernel
theorem dM_halve_168 : decode prog_7_method_14_code 168 = .ok (.aload_n 0, 1) := by decide +kernel
theorem dM_halve_169 : decode prog_7_method_14_code 169 = .ok (.getfield 44, 3) := by decide +kernel
theorem dM_halve_172 : decode prog_7_method_14_code 172 = .ok (.iload_n 2, 1) := by decide +kernel
theorem dM_halve_173 : decode prog_7_method_14_code 173 = .ok (.iconst 2, 1) := by decide +kernel
theorem dM_halve_174 : decode prog_7_method_14_code 174 = .ok (.isub, 1) := by decide +kernel
theorem dM_halve_175 : decode prog_7_method_14_code 175 = .ok (.iaload, 1) := by decide +kernel
theorem dM_halve_176 : decode prog_7_method_14_code 176 = .ok (.iaload, 1) := by decide +kernel
theorem dM_halve_177 : decode prog_7_method_14_code 177 = .ok (.iadd, 1) := by decide +kernel
theorem dM_halve_178 : decode prog_7_method_14_code 178 = .ok (.iastore, 1) := by decide +kernel
theorem dM_halve_179 : decode prog_7_method_14_code 179 = .ok (.aload_n 0, 1) := by decide +kernel
theorem dM_halve_180 : decode prog_7_method_14_code 180 = .ok (.getfield 50, 3) := by decide +kernel
theorem dM_halve_183 : decode prog_7_method_14_code 183 = .ok (.iload_n 3, 1) := by decide +kernel
theorem dM_halve_184 : decode prog_7_method_14_code 184 = .ok (.iconst (-1), 1) := by decide +kernel
theorem dM_halve_185 : decode prog_7_method_14_code 185 = .ok (.iastore, 1) := by decide +kernel
theorem dM_halve_186 : decode prog_7_method_14_code 186 = .ok (.iinc 4 (-2), 3) := by decide +kernel
theorem dM_halve_189 : decode prog_7_method_14_code 189 = .ok (.iinc 2 (-2), 3) := by decide +kernel
theorem dM_halve_192 : decode prog_7_method_14_code 192 = .ok (.iload_n 2, 1) := by decide +kernel
theorem dM_halve_193 : decode prog_7_method_14_code 193 = .ok (.istore 5, 2) := by decide +kernel
theorem dM_halve_195 : decode prog_7_method_14_code 195 = .ok (.iload 5, 2) := by decide +kernel
theorem dM_halve_197 : decode prog_7_method_14_code 197 = .ok (.ifCond .le 48, 3) := by decide +kernel
theorem dM_halve_200 : decode prog_7_method_14_code 200 = .ok (.aload_n 0, 1) := by decide +kernel
theorem dM_halve_201 : decode prog_7_method_14_code 201 = .ok (.getfield 47, 3) := by decide +kernel
theorem dM_halve_204 : decode prog_7_method_14_code 204 = .ok (.aload_n 0, 1) := by decide +kernel
theorem dM_halve_205 : decode prog_7_method_14_code 205 = .ok (.getfield 44, 3) := by decide +kernel
theorem dM_halve_208 : decode prog_7_method_14_code 208 = .ok (.iload 5, 2) := by decide +kernel
theorem dM_halve_210 : decode prog_7_method_14_code 210 = .ok (.iconst 1, 1) := by decide +kernel
theorem dM_halve_211 : decode prog_7_method_14_code 211 = .ok (.isub, 1) := by decide +kernel
theorem dM_halve_212 : decode prog_7_method_14_code 212 = .ok (.iaload, 1) := by decide +kernel
theorem dM_halve_213 : decode prog_7_method_14_code 213 = .ok (.iaload, 1) := by decide +kernel
theorem dM_halve_214 : decode prog_7_method_14_code 214 = .ok (.aload_n 0, 1) := by decide +kernel
theorem dM_halve_215 : decode prog_7_method_14_code 215 = .ok (.getfield 47, 3) := by decide +kernel
theorem dM_halve_218 : decode prog_7_method_14_code 218 = .ok (.iload_n 3, 1) := by decide +kernel
theorem dM_halve_219 : decode prog_7_method_14_code 219 = .ok (.iaload, 1) := by decide +kernel
theorem dM_halve_220 : decode prog_7_method_14_code 220 = .ok (.if_icmp .ge 25, 3) := by decide +kernel
theorem dM_halve_223 : decode prog_7_method_14_code 223 = .ok (.aload_n 0, 1) := by decide +kernel
theorem dM_halve_224 : decode prog_7_method_14_code 224 = .ok (.getfield 44, 3) := by decide +kernel
theorem dM_halve_227 : decode prog_7_method_14_code 227 = .ok (.iload 5, 2) := by decide +kernel
theorem dM_halve_229 : decode prog_7_method_14_code 229 = .ok (.aload_n 0, 1) := by decide +kernel
theorem dM_halve_230 : decode prog_7_method_14_code 230 = .ok (.getfield 44, 3) := by decide +kernel
theorem dM_halve_233 : decode prog_7_method_14_code 233 = .ok (.iload 5, 2) := by decide +kernel
theorem dM_halve_235 : decode prog_7_method_14_code 235 = .ok (.iconst 1, 1) := by decide +kernel
theorem dM_halve_236 : decode prog_7_method_14_code 236 = .ok (.isub, 1) := by decide +kernel
theorem dM_halve_237 : decode prog_7_method_14_code 237 = .ok (.iaload, 1) := by decide +kernel
theorem dM_halve_238 : decode prog_7_method_14_code 238 = .ok (.iastore, 1) := by decide +kernel
theorem dM_halve_239 : decode prog_7_method_14_code 239 = .ok (.iinc 5 (-1), 3) := by decide +kernel
theorem dM_halve_242 : decode prog_7_method_14_code 242 = .ok (.goto (-47), 3) := by decide +kernel
theorem dM_halve_245 : decode prog_7_method_14_code 245 = .ok (.aload_n 0, 1) := by decide +kernel
theorem dM_halve_246 : decode prog_7_method_14_code 246 = .ok (.getfield 44, 3) := by decide +kernel
theorem dM_halve_249 : decode prog_7_method_14_code 249 = .ok (.iload 5, 2) := by decide +kernel
theorem dM_halve_251 : decode prog_7_method_14_code 251 = .ok (.iload_n 3, 1) := by decide +kernel
theorem dM_halve_252 : decode prog_7_method_14_code 252 = .ok (.iastore, 1) := by decide +kernel
theorem dM_halve_253 : decode prog_7_method_14_code 253 = .ok (.iinc 2 1, 3) := by decide +kernel
theorem dM_halve_256 : decode prog_7_method_14_code 256 = .ok (.iinc 3 1, 3) := by decide +kernel
theorem dM_halve_259 : decode prog_7_method_14_code 259 = .ok (.goto (-179), 3) := by decide +kernel
theorem dM_halve_262 : decode prog_7_method_14_code 262 = .ok (.aload_n 0, 1) := by decide +kernel
theorem dM_halve_263 : decode prog_7_method_14_code 263 = .ok (.getfield 23, 3) := by decide +kernel
theorem dM_halve_266 : decode prog_7_method_14_code 266 = .ok (.sipush 129, 3) := by decide +kernel
theorem dM_halve_269 : decode prog_7_method_14_code 269 = .ok (.iload_n 1, 1) := by decide +kernel
theorem dM_halve_270 : decode prog_7_method_14_code 270 = .ok (.imul, 1) := by decide +kernel
theorem dM_halve_271 : decode prog_7_method_14_code 271 = .ok (.aload_n 0, 1) := by decide +kernel
theorem dM_halve_272 : decode prog_7_method_14_code 272 = .ok (.getfield 44, 3) := by decide +kernel
theorem dM_halve_275 : decode prog_7_method_14_code 275 = .ok (.iconst 0, 1) := by decide +kernel
theorem dM_halve_276 : decode prog_7_method_14_code 276 = .ok (.iaload, 1) := by decide +kernel
theorem dM_halve_277 : decode prog_7_method_14_code 277 = .ok (.iastore, 1) := by decide +kernel
theorem dM_halve_278 : decode prog_7_method_14_code 278 = .ok (.iconst 0, 1) := by decide +kernel
theorem dM_halve_279 : decode prog_7_method_14_code 279 = .ok (.istore 5, 2) := by decide +kernel
theorem dM_halve_281 : decode prog_7_method_14_code 281 = .ok (.iload 5, 2) := by decide +kernel
theorem dM_halve_283 : decode prog_7_method_14_code 283 = .ok (.aload_n 0, 1) := by decide +kernel
theorem dM_halve_284 : decode prog_7_method_14_code 284 = .ok (.getfield 13, 3) := by decide +kernel
theorem dM_halve_287 : decode prog_7_method_14_code 287 = .ok (.iload_n 1, 1) := by decide +kernel
theorem dM_halve_288 : decode prog_7_method_14_code 288 = .ok (.iaload, 1) := by decide +kernel
theorem dM_halve_289 : decode prog_7_method_14_code 289 = .ok (.if_icmp .ge 49, 3) := by decide +kernel
theorem dM_halve_292 : decode prog_7_method_14_code 292 = .ok (.aload_n 0, 1) := by decide +kernel
theorem dM_halve_293 : decode prog_7_method_14_code 293 = .ok (.getfield 26, 3) := by decide +kernel
theorem dM_halve_296 : decode prog_7_method_14_code 296 = .ok (.sipush 129, 3) := by decide +kernel
theorem dM_halve_299 : decode prog_7_method_14_code 299 = .ok (.iload_n 1, 1) := by decide +kernel
theorem dM_halve_300 : decode prog_7_method_14_code 300 = .ok (.imul, 1) := by decide +kernel
theorem dM_halve_301 : decode prog_7_method_14_code 301 = .ok (.iload 5, 2) := by decide +kernel
theorem dM_halve_303 : decode prog_7_method_14_code 303 = .ok (.iadd, 1) := by decide +kernel
theorem dM_halve_304 : decode prog_7_method_14_code 304 = .ok (.aload_n 0, 1) := by decide +kernel
theorem dM_halve_305 : decode prog_7_method_14_code 305 = .ok (.getfield 47, 3) := by decide +kernel
theorem dM_halve_308 : decode prog_7_method_14_code 308 = .ok (.iload 5, 2) := by decide +kernel
theorem dM_halve_310 : decode prog_7_method_14_code 310 = .ok (.iaload, 1) := by decide +kernel
theorem dM_halve_311 : decode prog_7_method_14_code 311 = .ok (.iastore, 1) := by decide +kernel
theorem dM_halve_312 : decode prog_7_method_14_code 312 = .ok (.aload_n 0, 1) := by decide +kernel
theorem dM_halve_313 : decode prog_7_method_14_code 313 = .ok (.getfield 29, 3) := by decide +kernel
theorem dM_halve_316 : decode prog_7_method_14_code 316 = .ok (.sipush 129, 3) := by decide +kernel
theorem dM_halve_319 : decode prog_7_method_14_code 319 = .ok (.iload_n 1, 1) := by decide +kernel
theorem dM_halve_320 : decode prog_7_method_14_code 320 = .ok (.imul, 1) := by decide +kernel
theorem dM_halve_321 : decode prog_7_method_14_code 321 = .ok (.iload 5, 2) := by decide +kernel
theorem dM_halve_323 : decode prog_7_method_14_code 323 = .ok (.iadd, 1) := by decide +kernel
theorem dM_halve_324 : decode prog_7_method_14_code 324 = .ok (.aload_n 0, 1) := by decide +kernel
theorem dM_halve_325 : decode prog_7_method_14_code 325 = .ok (.getfield 50, 3) := by decide +kernel
theorem dM_halve_328 : decode prog_7_method_14_code 328 = .ok (.iload 5, 2) := by decide +kernel
theorem dM_halve_330 : decode prog_7_method_14_code 330 = .ok (.iaload, 1) := by decide +kernel
theorem dM_halve_331 : decode prog_7_method_14_code 331 = .ok (.iastore, 1) := by decide +kernel
theorem dM_halve_332 : decode prog_7_method_14_code 332 = .ok (.iinc 5 1, 3) := by decide +kernel
theorem dM_halve_335 : decode prog_7_method_14_code 335 = .ok (.goto (-54), 3) := by decide +kernel
theorem dM_halve_338 : decode prog_7_method_14_code 338 = .ok (.aload_n 0, 1) := by decide +kernel
theorem dM_halve_339 : decode prog_7_method_14_code 339 = .ok (.getfield 16, 3) := by decide +kernel
theorem dM_halve_342 : decode prog_7_method_14_code 342 = .ok (.iload_n 1, 1) := by decide +kernel
theorem dM_halve_343 : decode prog_7_method_14_code 343 = .ok (.dup2, 1) := by decide +kernel
theorem dM_halve_344 : decode prog_7_method_14_code 344 = .ok (.iaload, 1) := by decide +kernel
theorem dM_halve_345 : decode prog_7_method_14_code 345 = .ok (.iconst 1, 1) := by decide +kernel
theorem dM_halve_346 : decode prog_7_method_14_code 346 = .ok (.iadd, 1) := by decide +kernel
theorem dM_halve_347 : decode prog_7_method_14_code 347 = .ok (.iastore, 1) := by decide +kernel
theorem dM_halve_348 : decode prog_7_method_14_code 348 = .ok (.return_, 1) := by decide +kernel
def LM_halve_281 (a0 : Nat) (p1 : Int32) (K13 : Hp → Option Hp) (rec19 : Hp → Int32 → Option Hp) (h17 : Hp) (x18 : Int32) : Option Hp :=
  gR h17 a0 5 4 (fun a20 =>
  ldI h17 a20 0 p1 (fun x21 =>
  if x21 ≤ x18 then
    (K13 h17)
  else
    (gR h17 a0 5 8 (fun a22 =>
    gR h17 a0 5 22 (fun a23 =>
    ldI h17 a23 0 x18 (fun x24 =>
    stI h17 a22 0 ((129 * p1) + x18) x24 (fun h25 =>
    gR h25 a0 5 9 (fun a26 =>
    gR h25 a0 5 23 (fun a27 =>
    ldI h25 a27 0 x18 (fun x28 =>
    stI h25 a26 0 ((129 * p1) + x18) x28 (fun h29 =>
    rec19 h29 (x18 + 1))))))))))))
def LM_halve_195 (a0 : Nat) (x32 : Int32) (K59 : Hp → Int32 → Option Hp) (rec64 : Hp → Int32 → Option Hp) (h62 : Hp) (x63 : Int32) : Option Hp :=
  if x63 ≤ 0 then
    (K59 h62 x63)
  else
    (gR h62 a0 5 22 (fun a65 =>
    gR h62 a0 5 21 (fun a66 =>
    ldI h62 a66 0 (x63 - 1) (fun x67 =>
    ldI h62 a65 0 x67 (fun x68 =>
    gR h62 a0 5 22 (fun a69 =>
    ldI h62 a69 0 x32 (fun x70 =>
    if x70 ≤ x68 then
      (K59 h62 x63)
    else
      (gR h62 a0 5 21 (fun a71 =>
      gR h62 a0 5 21 (fun a72 =>
      ldI h62 a72 0 (x63 - 1) (fun x73 =>
      stI h62 a71 0 x63 x73 (fun h74 =>
      rec64 h74 (x63 + (-1))))))))))))))
def LM_halve_80 (a0 : Nat) (p1 : Int32) (K7 : Hp → Option Hp) (rec34 : Hp → Int32 → Int32 → Int32 → Option Hp) (h30 : Hp) (x31 : Int32) (x32 : Int32) (x33 : Int32) : Option Hp :=
  if x31 ≤ 1 then
    (K7 h30)
  else
    (gR h30 a0 5 7 (fun a35 =>
    gR h30 a0 5 21 (fun a36 =>
    ldI h30 a36 0 (x31 - 1) (fun x37 =>
    stI h30 a35 0 ((129 * p1) + x33) x37 (fun h38 =>
    gR h38 a0 5 7 (fun a39 =>
    gR h38 a0 5 21 (fun a40 =>
    ldI h38 a40 0 (x31 - 2) (fun x41 =>
    stI h38 a39 0 (((129 * p1) + x33) - 1) x41 (fun h42 =>
    gR h42 a0 5 10 (fun a43 =>
    gd (¬ 2 = 0) (
    stI h42 a43 0 ((64 * p1) + ((x33 - 2) / 2)) x32 (fun h44 =>
    gR h44 a0 5 22 (fun a45 =>
    gR h44 a0 5 22 (fun a46 =>
    gR h44 a0 5 21 (fun a47 =>
    ldI h44 a47 0 (x31 - 1) (fun x48 =>
    ldI h44 a46 0 x48 (fun x49 =>
    gR h44 a0 5 22 (fun a50 =>
    gR h44 a0 5 21 (fun a51 =>
    ldI h44 a51 0 (x31 - 2) (fun x52 =>
    ldI h44 a50 0 x52 (fun x53 =>
    stI h44 a45 0 x32 (x49 + x53) (fun h54 =>
    gR h54 a0 5 23 (fun a55 =>
    stI h54 a55 0 x32 (-1) (fun h56 =>
    jn (fun (h57 : Hp) (x58 : Int32) =>
    gR h57 a0 5 21 (fun a60 =>
    stI h57 a60 0 x58 x32 (fun h61 =>
    rec34 h61 ((x31 + (-2)) + 1) (x32 + 1) (x33 + (-2)))))
    (fun (K59 : Hp → Int32 → Option Hp) =>
    lpG (fun _ _ => none) fu (LM_halve_195 a0 x32 K59) h56 (x31 + (-2)))))))))))))))))))))))))))
def LM_halve_4 (a0 : Nat) (p1 : Int32) (K3 : Hp → Int32 → Option Hp) (rec78 : Hp → Int32 → Int32 → Option Hp) (h75 : Hp) (x76 : Int32) (x77 : Int32) : Option Hp :=
  gR h75 a0 5 4 (fun a79 =>
  ldI h75 a79 0 p1 (fun x80 =>
  if x80 ≤ x77 then
    (K3 h75 x76)
  else
    (gd (isO h75 a0 5 = true) ((FM_signAt h75 a0 p1 x77).bind (fun r82 =>
    jn (fun (h83 : Hp) (x84 : Int32) =>
    rec78 h83 x84 (x77 + 1))
    (fun (j85 : Hp → Int32 → Option Hp) =>
    if r82 = (-1) then
      (j85 h75 x76)
    else
      (gR h75 a0 5 22 (fun a86 =>
      gd (isO h75 a0 5 = true) ((FM_countAt h75 a0 p1 x77).bind (fun r88 =>
      gd (¬ 2 = 0) (
      stI h75 a86 0 x76 ((r88 + 1) / 2) (fun h89 =>
      gR h89 a0 5 23 (fun a90 =>
      gd (isO h89 a0 5 = true) ((FM_signAt h89 a0 p1 x77).bind (fun r92 =>
      stI h89 a90 0 x76 r92 (fun h93 =>
      gR h93 a0 5 21 (fun a94 =>
      stI h93 a94 0 x76 x76 (fun h95 =>
      j85 h95 (x76 + 1)))))))))))))))))))
def FM_halve (h0 : Hp) (a0 : Nat) (p1 : Int32) : Option Hp :=
  jn (fun (h1 : Hp) (x2 : Int32) =>
  gR h1 a0 5 4 (fun a4 =>
  ldI h1 a4 0 p1 (fun x5 =>
  jn (fun (h6 : Hp) =>
  gR h6 a0 5 7 (fun a8 =>
  gR h6 a0 5 21 (fun a9 =>
  ldI h6 a9 0 0 (fun x10 =>
  stI h6 a8 0 (129 * p1) x10 (fun h11 =>
  jn (fun (h12 : Hp) =>
  gR h12 a0 5 5 (fun a14 =>
  ldI h12 a14 0 p1 (fun x15 =>
  stI h12 a14 0 p1 (x15 + 1) (fun h16 =>
  some h16))))
  (fun (K13 : Hp → Option Hp) =>
  lpG (fun _ _ => none) fu (LM_halve_281 a0 p1 K13) h11 0))))))
  (fun (K7 : Hp → Option Hp) =>
  lpG (fun _ _ _ _ => none) fu (LM_halve_80 a0 p1 K7) h1 x2 x2 (x5 - 1)))))
  (fun (K3 : Hp → Int32 → Option Hp) =>
  lpG (fun _ _ _ => none) fu (LM_halve_4 a0 p1 K3) h0 0 0)
set_option maxRecDepth 100000 in
set_option maxHeartbeats 4000000 in
theorem mM_halve (l : Launch) (h0 : Hp) (z0 : Nat) (a0 : Nat) (p1 : Int32) (r : Hp) (hr : FM_halve h0 a0 p1 = some r) : vM False l yM_halve (Cond.code yM_halve prog_7_method_14_code 6 none :: gW) 1 [.ref a0, .int p1] h0 z0 r z0 none 0 0 := by
  refine vM.of (by decide) rfl (Nat.le_of_ble_eq_true rfl) ?_
  intro p e s m args below meth c D dA C hin2
  refine (?_ : vO p l e (vR 1 0 0) s m args below meth c D dA (vA h0 z0) 6 False (fun r : Hp => MQ below (vQc False h0 z0 D dA r z0 none) args s 0 0 (vAr False h0 z0)) 0 0 h0 z0 [(0, .ref a0), (1, .int p1)] 0 [] (FM_halve h0 a0 p1)) r hr
  obtain ⟨Q, hQ⟩ : ∃ Q : Hp → State → Prop, Q = (fun r : Hp => MQ below (vQc False h0 z0 D dA r z0 none) args s 0 0 (vAr False h0 z0)) := ⟨_, rfl⟩
  rw [← hQ]
  unfold FM_halve
  refine v_iconst (v := 0) C dM_halve_0 (by decide) ?_
  refine v_istore_n (lv' := [(0, .ref a0), (1, .int p1), (2, .int 0)]) C dM_halve_1 rfl (by decide) [1, 2, 0] rfl ?_
  refine v_iconst (v := 0) C dM_halve_2 (by decide) ?_
  refine v_istore_n (lv' := [(0, .ref a0), (1, .int p1), (2, .int 0), (3, .int 0)]) C dM_halve_3 rfl (by decide) [1, 2, 3, 0] rfl ?_
  refine v_jn (fun (j : Hp → Int32 → Option Hp) => ∀ (h1 : Hp), ∀ (x2 : Int32), vO p l e (vR 1 0 0) s m args below meth c D dA (vA h0 z0) 6 False Q 0 0 h1 z0 [(0, .ref a0), (1, .int p1), (2, .int x2)] 68 [] (j h1 x2)) ?_ (fun K3 HK3 => ?_)
  · intro h1 x2
    refine v_iload_n C dM_halve_68 rfl 2 rfl ?_
    refine v_istore_n (lv' := [(0, .ref a0), (1, .int p1), (2, .int x2), (3, .int x2)]) C dM_halve_69 rfl (by decide) [1, 2, 3, 0] rfl ?_
    refine v_aload_n C dM_halve_70 rfl 0 rfl ?_
    refine v_getR C v_cl5 (by decide) in_5 rfl w_613 dM_halve_71 (fun a4 => ?_)
    refine v_iload_n C dM_halve_74 rfl 1 rfl ?_
    refine v_iald C rfl dM_halve_75 (fun x5 => ?_)
    refine v_iconst (v := 1) C dM_halve_76 (by decide) ?_
    refine v_isub C dM_halve_77 ?_
    refine v_istore (lv' := [(0, .ref a0), (1, .int p1), (2, .int x2), (3, .int x2), (4, .int (x5 - 1))]) C dM_halve_78 (by decide) [1, 2, 3, 4, 0] rfl ?_
    refine v_jn (fun (j : Hp → Option Hp) => ∀ (h6 : Hp), vO p l e (vR 1 0 0) s m args below meth c D dA (vA h0 z0) 6 False Q 0 0 h6 z0 [(0, .ref a0), (1, .int p1)] 262 [] (j h6)) ?_ (fun K7 HK7 => ?_)
    · intro h6
      refine v_aload_n C dM_halve_262 rfl 0 rfl ?_
      refine v_getR C v_cl5 (by decide) in_5 rfl w_616 dM_halve_263 (fun a8 => ?_)
      refine v_sipush (v := 129) C dM_halve_266 (by decide) ?_
      refine v_iload_n C dM_halve_269 rfl 1 rfl ?_
      refine v_imul C dM_halve_270 ?_
      refine v_aload_n C dM_halve_271 rfl 0 rfl ?_
      refine v_getR C v_cl5 (by decide) in_5 rfl w_630 dM_halve_272 (fun a9 => ?_)
      refine v_iconst (v := 0) C dM_halve_275 (by decide) ?_
      refine v_iald C rfl dM_halve_276 (fun x10 => ?_)
      refine v_iast C rfl dM_halve_277 (fun h11 => ?_)
      refine v_iconst (v := 0) C dM_halve_278 (by decide) ?_
      refine v_istore (lv' := [(0, .ref a0), (1, .int p1), (5, .int 0)]) C dM_halve_279 (by decide) [1, 2, 0] rfl ?_
      refine v_jn (fun (j : Hp → Option Hp) => ∀ (h12 : Hp), vO p l e (vR 1 0 0) s m args below meth c D dA (vA h0 z0) 6 False Q 0 0 h12 z0 [(0, .ref a0), (1, .int p1)] 338 [] (j h12)) ?_ (fun K13 HK13 => ?_)
      · intro h12
        refine v_aload_n C dM_halve_338 rfl 0 rfl ?_
        refine v_getR C v_cl5 (by decide) in_5 rfl w_614 dM_halve_339 (fun a14 => ?_)
        refine v_iload_n C dM_halve_342 rfl 1 rfl ?_
        refine v_dup2 C dM_halve_343 rfl rfl ?_
        refine v_iald C rfl dM_halve_344 (fun x15 => ?_)
        refine v_iconst (v := 1) C dM_halve_345 (by decide) ?_
        refine v_iadd C dM_halve_346 ?_
        refine v_iast C rfl dM_halve_347 (fun h16 => ?_)
        exact v_vret C dM_halve_348 (by rw [hQ])
      · refine lpG_ind (bot := (fun _ _ => none)) (B := LM_halve_281 a0 p1 K13) (fun (r : Hp → Int32 → Option Hp) => ∀ (h17 : Hp), ∀ (x18 : Int32), vO p l e (vR 1 0 0) s m args below meth c D dA (vA h0 z0) 6 False Q 0 0 h17 z0 [(0, .ref a0), (1, .int p1), (5, .int x18)] 281 [] (r h17 x18)) ?_ ?_ fu h11 0
        · intro h17 x18
          exact v_none
        · intro rec19 Hrec19 h17 x18
          unfold LM_halve_281
          refine v_iload C dM_halve_281 2 rfl ?_
          refine v_aload_n C dM_halve_283 rfl 0 rfl ?_
          refine v_getR C v_cl5 (by decide) in_5 rfl w_613 dM_halve_284 (fun a20 => ?_)
          refine v_iload_n C dM_halve_287 rfl 1 rfl ?_
          refine v_iald C rfl dM_halve_288 (fun x21 => ?_)
          refine v_icmp_ge (tgt := 338) C dM_halve_289 (by decide) ?_ ?_
          · refine v_lv (lv' := [(0, .ref a0), (1, .int p1)]) [0, 1] rfl ?_
            exact HK13 h17
          · refine v_aload_n C dM_halve_292 rfl 0 rfl ?_
            refine v_getR C v_cl5 (by decide) in_5 rfl w_617 dM_halve_293 (fun a22 => ?_)
            refine v_sipush (v := 129) C dM_halve_296 (by decide) ?_
            refine v_iload_n C dM_halve_299 rfl 1 rfl ?_
            refine v_imul C dM_halve_300 ?_
            refine v_iload C dM_halve_301 2 rfl ?_
            refine v_iadd C dM_halve_303 ?_
            refine v_aload_n C dM_halve_304 rfl 0 rfl ?_
            refine v_getR C v_cl5 (by decide) in_5 rfl w_631 dM_halve_305 (fun a23 => ?_)
            refine v_iload C dM_halve_308 2 rfl ?_
            refine v_iald C rfl dM_halve_310 (fun x24 => ?_)
            refine v_iast C rfl dM_halve_311 (fun h25 => ?_)
            refine v_aload_n C dM_halve_312 rfl 0 rfl ?_
            refine v_getR C v_cl5 (by decide) in_5 rfl w_618 dM_halve_313 (fun a26 => ?_)
            refine v_sipush (v := 129) C dM_halve_316 (by decide) ?_
            refine v_iload_n C dM_halve_319 rfl 1 rfl ?_
            refine v_imul C dM_halve_320 ?_
            refine v_iload C dM_halve_321 2 rfl ?_
            refine v_iadd C dM_halve_323 ?_
            refine v_aload_n C dM_halve_324 rfl 0 rfl ?_
            refine v_getR C v_cl5 (by decide) in_5 rfl w_632 dM_halve_325 (fun a27 => ?_)
            refine v_iload C dM_halve_328 2 rfl ?_
            refine v_iald C rfl dM_halve_330 (fun x28 => ?_)
            refine v_iast C rfl dM_halve_331 (fun h29 => ?_)
            refine v_iinc (v := (x18 + 1)) (lv' := [(0, .ref a0), (1, .int p1), (5, .int (x18 + 1))]) C dM_halve_332 2 rfl rfl (by decide) [1, 2, 0] rfl ?_
            refine v_goto (tgt := 281) C dM_halve_335 (by decide) ?_
            exact Hrec19 h29 (x18 + 1)
    · refine lpG_ind (bot := (fun _ _ _ _ => none)) (B := LM_halve_80 a0 p1 K7) (fun (r : Hp → Int32 → Int32 → Int32 → Option Hp) => ∀ (h30 : Hp), ∀ (x31 : Int32), ∀ (x32 : Int32), ∀ (x33 : Int32), vO p l e (vR 1 0 0) s m args below meth c D dA (vA h0 z0) 6 False Q 0 0 h30 z0 [(0, .ref a0), (1, .int p1), (2, .int x31), (3, .int x32), (4, .int x33)] 80 [] (r h30 x31 x32 x33)) ?_ ?_ fu h1 x2 x2 (x5 - 1)
      · intro h30 x31 x32 x33
        exact v_none
      · intro rec34 Hrec34 h30 x31 x32 x33
        unfold LM_halve_80
        refine v_iload_n C dM_halve_80 rfl 2 rfl ?_
        refine v_iconst (v := 1) C dM_halve_81 (by decide) ?_
        refine v_icmp_le (tgt := 262) C dM_halve_82 (by decide) ?_ ?_
        · refine v_lv (lv' := [(0, .ref a0), (1, .int p1)]) [0, 1] rfl ?_
          exact HK7 h30
        · refine v_aload_n C dM_halve_85 rfl 0 rfl ?_
          refine v_getR C v_cl5 (by decide) in_5 rfl w_616 dM_halve_86 (fun a35 => ?_)
          refine v_sipush (v := 129) C dM_halve_89 (by decide) ?_
          refine v_iload_n C dM_halve_92 rfl 1 rfl ?_
          refine v_imul C dM_halve_93 ?_
          refine v_iload C dM_halve_94 4 rfl ?_
          refine v_iadd C dM_halve_96 ?_
          refine v_aload_n C dM_halve_97 rfl 0 rfl ?_
          refine v_getR C v_cl5 (by decide) in_5 rfl w_630 dM_halve_98 (fun a36 => ?_)
          refine v_iload_n C dM_halve_101 rfl 2 rfl ?_
          refine v_iconst (v := 1) C dM_halve_102 (by decide) ?_
          refine v_isub C dM_halve_103 ?_
          refine v_iald C rfl dM_halve_104 (fun x37 => ?_)
          refine v_iast C rfl dM_halve_105 (fun h38 => ?_)
          refine v_aload_n C dM_halve_106 rfl 0 rfl ?_
          refine v_getR C v_cl5 (by decide) in_5 rfl w_616 dM_halve_107 (fun a39 => ?_)
          refine v_sipush (v := 129) C dM_halve_110 (by decide) ?_
          refine v_iload_n C dM_halve_113 rfl 1 rfl ?_
          refine v_imul C dM_halve_114 ?_
          refine v_iload C dM_halve_115 4 rfl ?_
          refine v_iadd C dM_halve_117 ?_
          refine v_iconst (v := 1) C dM_halve_118 (by decide) ?_
          refine v_isub C dM_halve_119 ?_
          refine v_aload_n C dM_halve_120 rfl 0 rfl ?_
          refine v_getR C v_cl5 (by decide) in_5 rfl w_630 dM_halve_121 (fun a40 => ?_)
          refine v_iload_n C dM_halve_124 rfl 2 rfl ?_
          refine v_iconst (v := 2) C dM_halve_125 (by decide) ?_
          refine v_isub C dM_halve_126 ?_
          refine v_iald C rfl dM_halve_127 (fun x41 => ?_)
          refine v_iast C rfl dM_halve_128 (fun h42 => ?_)
          refine v_aload_n C dM_halve_129 rfl 0 rfl ?_
          refine v_getR C v_cl5 (by decide) in_5 rfl w_619 dM_halve_130 (fun a43 => ?_)
          refine v_bipush (v := 64) C dM_halve_133 (by decide) ?_
          refine v_iload_n C dM_halve_135 rfl 1 rfl ?_
          refine v_imul C dM_halve_136 ?_
          refine v_iload C dM_halve_137 4 rfl ?_
          refine v_iconst (v := 2) C dM_halve_139 (by decide) ?_
          refine v_isub C dM_halve_140 ?_
          refine v_iconst (v := 2) C dM_halve_141 (by decide) ?_
          refine v_idiv C dM_halve_142 ?_
          refine v_iadd C dM_halve_143 ?_
          refine v_iload_n C dM_halve_144 rfl 3 rfl ?_
          refine v_iast C rfl dM_halve_145 (fun h44 => ?_)
          refine v_aload_n C dM_halve_146 rfl 0 rfl ?_
          refine v_getR C v_cl5 (by decide) in_5 rfl w_631 dM_halve_147 (fun a45 => ?_)
          refine v_iload_n C dM_halve_150 rfl 3 rfl ?_
          refine v_aload_n C dM_halve_151 rfl 0 rfl ?_
          refine v_getR C v_cl5 (by decide) in_5 rfl w_631 dM_halve_152 (fun a46 => ?_)
          refine v_aload_n C dM_halve_155 rfl 0 rfl ?_
          refine v_getR C v_cl5 (by decide) in_5 rfl w_630 dM_halve_156 (fun a47 => ?_)
          refine v_iload_n C dM_halve_159 rfl 2 rfl ?_
          refine v_iconst (v := 1) C dM_halve_160 (by decide) ?_
          refine v_isub C dM_halve_161 ?_
          refine v_iald C rfl dM_halve_162 (fun x48 => ?_)
          refine v_iald C rfl dM_halve_163 (fun x49 => ?_)
          refine v_aload_n C dM_halve_164 rfl 0 rfl ?_
          refine v_getR C v_cl5 (by decide) in_5 rfl w_631 dM_halve_165 (fun a50 => ?_)
          refine v_aload_n C dM_halve_168 rfl 0 rfl ?_
          refine v_getR C v_cl5 (by decide) in_5 rfl w_630 dM_halve_169 (fun a51 => ?_)
          refine v_iload_n C dM_halve_172 rfl 2 rfl ?_
          refine v_iconst (v := 2) C dM_halve_173 (by decide) ?_
          refine v_isub C dM_halve_174 ?_
          refine v_iald C rfl dM_halve_175 (fun x52 => ?_)
          refine v_iald C rfl dM_halve_176 (fun x53 => ?_)
          refine v_iadd C dM_halve_177 ?_
          refine v_iast C rfl dM_halve_178 (fun h54 => ?_)
          refine v_aload_n C dM_halve_179 rfl 0 rfl ?_
          refine v_getR C v_cl5 (by decide) in_5 rfl w_632 dM_halve_180 (fun a55 => ?_)
          refine v_iload_n C dM_halve_183 rfl 3 rfl ?_
          refine v_iconst (v := (-1)) C dM_halve_184 (by decide) ?_
          refine v_iast C rfl dM_halve_185 (fun h56 => ?_)
          refine v_iinc (v := (x33 + (-2))) (lv' := [(0, .ref a0), (1, .int p1), (2, .int x31), (3, .int x32), (4, .int (x33 + (-2)))]) C dM_halve_186 4 rfl rfl (by decide) [1, 2, 3, 4, 0] rfl ?_
          refine v_iinc (v := (x31 + (-2))) (lv' := [(0, .ref a0), (1, .int p1), (2, .int (x31 + (-2))), (3, .int x32), (4, .int (x33 + (-2)))]) C dM_halve_189 2 rfl rfl (by decide) [1, 2, 0, 3, 4] rfl ?_
          refine v_iload_n C dM_halve_192 rfl 2 rfl ?_
          refine v_istore (lv' := [(0, .ref a0), (1, .int p1), (2, .int (x31 + (-2))), (3, .int x32), (4, .int (x33 + (-2))), (5, .int (x31 + (-2)))]) C dM_halve_193 (by decide) [1, 2, 3, 4, 5, 0] rfl ?_
          refine v_jn (fun (j : Hp → Int32 → Option Hp) => ∀ (h57 : Hp), ∀ (x58 : Int32), vO p l e (vR 1 0 0) s m args below meth c D dA (vA h0 z0) 6 False Q 0 0 h57 z0 [(0, .ref a0), (1, .int p1), (2, .int (x31 + (-2))), (3, .int x32), (4, .int (x33 + (-2))), (5, .int x58)] 245 [] (j h57 x58)) ?_ (fun K59 HK59 => ?_)
          · intro h57 x58
            refine v_aload_n C dM_halve_245 rfl 0 rfl ?_
            refine v_getR C v_cl5 (by decide) in_5 rfl w_630 dM_halve_246 (fun a60 => ?_)
            refine v_iload C dM_halve_249 5 rfl ?_
            refine v_iload_n C dM_halve_251 rfl 3 rfl ?_
            refine v_iast C rfl dM_halve_252 (fun h61 => ?_)
            refine v_iinc (v := ((x31 + (-2)) + 1)) (lv' := [(0, .ref a0), (1, .int p1), (2, .int ((x31 + (-2)) + 1)), (3, .int x32), (4, .int (x33 + (-2)))]) C dM_halve_253 2 rfl rfl (by decide) [1, 2, 0, 3, 4] rfl ?_
            refine v_iinc (v := (x32 + 1)) (lv' := [(0, .ref a0), (1, .int p1), (2, .int ((x31 + (-2)) + 1)), (3, .int (x32 + 1)), (4, .int (x33 + (-2)))]) C dM_halve_256 3 rfl rfl (by decide) [1, 2, 3, 0, 4] rfl ?_
            refine v_goto (tgt := 80) C dM_halve_259 (by decide) ?_
            exact Hrec34 h61 ((x31 + (-2)) + 1) (x32 + 1) (x33 + (-2))
          · refine lpG_ind (bot := (fun _ _ => none)) (B := LM_halve_195 a0 x32 K59) (fun (r : Hp → Int32 → Option Hp) => ∀ (h62 : Hp), ∀ (x63 : Int32), vO p l e (vR 1 0 0) s m args below meth c D dA (vA h0 z0) 6 False Q 0 0 h62 z0 [(0, .ref a0), (1, .int p1), (2, .int (x31 + (-2))), (3, .int x32), (4, .int (x33 + (-2))), (5, .int x63)] 195 [] (r h62 x63)) ?_ ?_ fu h56 (x31 + (-2))
            · intro h62 x63
              exact v_none
            · intro rec64 Hrec64 h62 x63
              unfold LM_halve_195
              refine v_iload C dM_halve_195 5 rfl ?_
              refine v_if_le (tgt := 245) C dM_halve_197 (by decide) ?_ ?_
              · exact HK59 h62 x63
              · refine v_aload_n C dM_halve_200 rfl 0 rfl ?_
                refine v_getR C v_cl5 (by decide) in_5 rfl w_631 dM_halve_201 (fun a65 => ?_)
                refine v_aload_n C dM_halve_204 rfl 0 rfl ?_
                refine v_getR C v_cl5 (by decide) in_5 rfl w_630 dM_halve_205 (fun a66 => ?_)
                refine v_iload C dM_halve_208 5 rfl ?_
                refine v_iconst (v := 1) C dM_halve_210 (by decide) ?_
                refine v_isub C dM_halve_211 ?_
                refine v_iald C rfl dM_halve_212 (fun x67 => ?_)
                refine v_iald C rfl dM_halve_213 (fun x68 => ?_)
                refine v_aload_n C dM_halve_214 rfl 0 rfl ?_
                refine v_getR C v_cl5 (by decide) in_5 rfl w_631 dM_halve_215 (fun a69 => ?_)
                refine v_iload_n C dM_halve_218 rfl 3 rfl ?_
                refine v_iald C rfl dM_halve_219 (fun x70 => ?_)
                refine v_icmp_ge (tgt := 245) C dM_halve_220 (by decide) ?_ ?_
                · exact HK59 h62 x63
                · refine v_aload_n C dM_halve_223 rfl 0 rfl ?_
                  refine v_getR C v_cl5 (by decide) in_5 rfl w_630 dM_halve_224 (fun a71 => ?_)
                  refine v_iload C dM_halve_227 5 rfl ?_
                  refine v_aload_n C dM_halve_229 rfl 0 rfl ?_
                  refine v_getR C v_cl5 (by decide) in_5 rfl w_630 dM_halve_230 (fun a72 => ?_)
                  refine v_iload C dM_halve_233 5 rfl ?_
                  refine v_iconst (v := 1) C dM_halve_235 (by decide) ?_
                  refine v_isub C dM_halve_236 ?_
                  refine v_iald C rfl dM_halve_237 (fun x73 => ?_)
                  refine v_iast C rfl dM_halve_238 (fun h74 => ?_)
                  refine v_iinc (v := (x63 + (-1))) (lv' := [(0, .ref a0), (1, .int p1), (2, .int (x31 + (-2))), (3, .int x32), (4, .int (x33 + (-2))), (5, .int (x63 + (-1)))]) C dM_halve_239 5 rfl rfl (by decide) [1, 2, 3, 4, 5, 0] rfl ?_
                  refine v_goto (tgt := 195) C dM_halve_242 (by decide) ?_
                  exact Hrec64 h74 (x63 + (-1))
  · refine lpG_ind (bot := (fun _ _ _ => none)) (B := LM_halve_4 a0 p1 K3) (fun (r : Hp → Int32 → Int32 → Option Hp) => ∀ (h75 : Hp), ∀ (x76 : Int32), ∀ (x77 : Int32), vO p l e (vR 1 0 0) s m args below meth c D dA (vA h0 z0) 6 False Q 0 0 h75 z0 [(0, .ref a0), (1, .int p1), (2, .int x76), (3, .int x77)] 4 [] (r h75 x76 x77)) ?_ ?_ fu h0 0 0
    · intro h75 x76 x77
      exact v_none
    · intro rec78 Hrec78 h75 x76 x77
      unfold LM_halve_4
      refine v_iload_n C dM_halve_4 rfl 3 rfl ?_
      refine v_aload_n C dM_halve_5 rfl 0 rfl ?_
      refine v_getR C v_cl5 (by decide) in_5 rfl w_613 dM_halve_6 (fun a79 => ?_)
      refine v_iload_n C dM_halve_9 rfl 1 rfl ?_
      refine v_iald C rfl dM_halve_10 (fun x80 => ?_)
      refine v_icmp_ge (tgt := 68) C dM_halve_11 (by decide) ?_ ?_
      · refine v_lv (lv' := [(0, .ref a0), (1, .int p1), (2, .int x76)]) [0, 1, 2] rfl ?_
        exact HK3 h75 x76
      · refine v_aload_n C dM_halve_14 rfl 0 rfl ?_
        refine v_iload_n C dM_halve_15 rfl 1 rfl ?_
        refine v_iload_n C dM_halve_16 rfl 3 rfl ?_
        refine v_gd fun hO81 => ?_
        refine v_bind fun r82 hr82 => ?_
        refine v_callV0 (N := 2) (As := [.int p1, .int x77]) (st := []) C (fun _ => trivial) (mM_signAt l h75 z0 a0 p1 x77 r82 hr82) rfl w_759 w_53 (by decide +kernel) ⟨Nat.le_of_ble_eq_true rfl, Nat.le_of_ble_eq_true rfl⟩ rfl rfl (Nat.le_of_ble_eq_true rfl) ⟨Nat.zero_le _, Nat.zero_le _⟩ w_756 w_758 w_37 v_cl5 rfl hO81 dM_halve_17 ?_
        refine v_iconst (v := (-1)) C dM_halve_20 (by decide) ?_
        refine v_jn (fun (j : Hp → Int32 → Option Hp) => ∀ (h83 : Hp), ∀ (x84 : Int32), vO p l e (vR 1 0 0) s m args below meth c D dA (vA h0 z0) 6 False Q 0 0 h83 z0 [(0, .ref a0), (1, .int p1), (2, .int x84), (3, .int x77)] 62 [] (j h83 x84)) ?_ (fun j85 Hj85 => ?_)
        · intro h83 x84
          refine v_iinc (v := (x77 + 1)) (lv' := [(0, .ref a0), (1, .int p1), (2, .int x84), (3, .int (x77 + 1))]) C dM_halve_62 3 rfl rfl (by decide) [1, 2, 3, 0] rfl ?_
          refine v_goto (tgt := 4) C dM_halve_65 (by decide) ?_
          exact Hrec78 h83 x84 (x77 + 1)
        · refine v_icmp_eq (tgt := 62) C dM_halve_21 (by decide) ?_ ?_
          · exact Hj85 h75 x76
          · refine v_aload_n C dM_halve_24 rfl 0 rfl ?_
            refine v_getR C v_cl5 (by decide) in_5 rfl w_631 dM_halve_25 (fun a86 => ?_)
            refine v_iload_n C dM_halve_28 rfl 2 rfl ?_
            refine v_aload_n C dM_halve_29 rfl 0 rfl ?_
            refine v_iload_n C dM_halve_30 rfl 1 rfl ?_
            refine v_iload_n C dM_halve_31 rfl 3 rfl ?_
            refine v_gd fun hO87 => ?_
            refine v_bind fun r88 hr88 => ?_
            refine v_callV0 (N := 2) (As := [.int p1, .int x77]) (st := [.int x76, .ref a86]) C (fun _ => trivial) (mM_countAt l h75 z0 a0 p1 x77 r88 hr88) rfl w_751 w_53 (by decide +kernel) ⟨Nat.le_of_ble_eq_true rfl, Nat.le_of_ble_eq_true rfl⟩ rfl rfl (Nat.le_of_ble_eq_true rfl) ⟨Nat.zero_le _, Nat.zero_le _⟩ w_748 w_750 w_35 v_cl5 rfl hO87 dM_halve_32 ?_
            refine v_iconst (v := 1) C dM_halve_35 (by decide) ?_
            refine v_iadd C dM_halve_36 ?_
            refine v_iconst (v := 2) C dM_halve_37 (by decide) ?_
            refine v_idiv C dM_halve_38 ?_
            refine v_iast C rfl dM_halve_39 (fun h89 => ?_)
            refine v_aload_n C dM_halve_40 rfl 0 rfl ?_
            refine v_getR C v_cl5 (by decide) in_5 rfl w_632 dM_halve_41 (fun a90 => ?_)
            refine v_iload_n C dM_halve_44 rfl 2 rfl ?_
            refine v_aload_n C dM_halve_45 rfl 0 rfl ?_
            refine v_iload_n C dM_halve_46 rfl 1 rfl ?_
            refine v_iload_n C dM_halve_47 rfl 3 rfl ?_
            refine v_gd fun hO91 => ?_
            refine v_bind fun r92 hr92 => ?_
            refine v_callV0 (N := 2) (As := [.int p1, .int x77]) (st := [.int x76, .ref a90]) C (fun _ => trivial) (mM_signAt l h89 z0 a0 p1 x77 r92 hr92) rfl w_759 w_53 (by decide +kernel) ⟨Nat.le_of_ble_eq_true rfl, Nat.le_of_ble_eq_true rfl⟩ rfl rfl (Nat.le_of_ble_eq_true rfl) ⟨Nat.zero_le _, Nat.zero_le _⟩ w_756 w_758 w_37 v_cl5 rfl hO91 dM_halve_48 ?_
            refine v_iast C rfl dM_halve_51 (fun h93 => ?_)
            refine v_aload_n C dM_halve_52 rfl 0 rfl ?_
            refine v_getR C v_cl5 (by decide) in_5 rfl w_630 dM_halve_53 (fun a94 => ?_)
            refine v_iload_n C dM_halve_56 rfl 2 rfl ?_
            refine v_iload_n C dM_halve_57 rfl 2 rfl ?_
            refine v_iast C rfl dM_halve_58 (fun h95 => ?_)
            refine v_iinc (v := (x76 + 1)) (lv' := [(0, .ref a0), (1, .int p1), (2, .int (x76 + 1)), (3, .int x77)]) C dM_halve_59 2 rfl rfl (by decide) [1, 2, 0, 3] rfl ?_
            exact Hj85 h95 (x76 + 1)
theorem dM_counts_0 : decode prog_7_method_13_code 0 = .ok (.aload_n 0, 1) := by decide +kernel
theorem dM_counts_1 : decode prog_7_method_13_code 1 = .ok (.iload_n 1, 1) := by decide +kernel
theorem dM_counts_2 : decode prog_7_method_13_code 2 = .ok (.iload_n 2, 1) := by decide +kernel
theorem dM_counts_3 : decode prog_7_method_13_code 3 = .ok (.invokevirtual 84, 3) := by decide +kernel
theorem dM_counts_6 : decode prog_7_method_13_code 6 = .ok (.iconst (-1), 1) := by decide +kernel
theorem dM_counts_7 : decode prog_7_method_13_code 7 = .ok (.if_icmp .ne 68, 3) := by decide +kernel
theorem dM_counts_10 : decode prog_7_method_13_code 10 = .ok (.aload_n 0, 1) := by decide +kernel
theorem dM_counts_11 : decode prog_7_method_13_code 11 = .ok (.iload_n 1, 1) := by decide +kernel
theorem dM_counts_12 : decode prog_7_method_13_code 12 = .ok (.bipush (-2), 2) := by decide +kernel
theorem dM_counts_14 : decode prog_7_method_13_code 14 = .ok (.invokevirtual 84, 3) := by decide +kernel
theorem dM_counts_17 : decode prog_7_method_13_code 17 = .ok (.istore_n 3, 1) := by decide +kernel
theorem dM_counts_18 : decode prog_7_method_13_code 18 = .ok (.aload_n 0, 1) := by decide +kernel
theorem dM_counts_19 : decode prog_7_method_13_code 19 = .ok (.getfield 13, 3) := by decide +kernel
theorem dM_counts_22 : decode prog_7_method_13_code 22 = .ok (.iload_n 1, 1) := by decide +kernel
theorem dM_counts_23 : decode prog_7_method_13_code 23 = .ok (.iaload, 1) := by decide +kernel
theorem dM_counts_24 : decode prog_7_method_13_code 24 = .ok (.istore 4, 2) := by decide +kernel
theorem dM_counts_26 : decode prog_7_method_13_code 26 = .ok (.aload_n 0, 1) := by decide +kernel
theorem dM_counts_27 : decode prog_7_method_13_code 27 = .ok (.getfield 29, 3) := by decide +kernel
theorem dM_counts_30 : decode prog_7_method_13_code 30 = .ok (.sipush 129, 3) := by decide +kernel
theorem dM_counts_33 : decode prog_7_method_13_code 33 = .ok (.iload_n 1, 1) := by decide +kernel
theorem dM_counts_34 : decode prog_7_method_13_code 34 = .ok (.imul, 1) := by decide +kernel
theorem dM_counts_35 : decode prog_7_method_13_code 35 = .ok (.iload_n 3, 1) := by decide +kernel
theorem dM_counts_36 : decode prog_7_method_13_code 36 = .ok (.iadd, 1) := by decide +kernel
theorem dM_counts_37 : decode prog_7_method_13_code 37 = .ok (.iconst (-1), 1) := by decide +kernel
theorem dM_counts_38 : decode prog_7_method_13_code 38 = .ok (.iastore, 1) := by decide +kernel
theorem dM_counts_39 : decode prog_7_method_13_code 39 = .ok (.aload_n 0, 1) := by decide +kernel
theorem dM_counts_40 : decode prog_7_method_13_code 40 = .ok (.getfield 32, 3) := by decide +kernel
theorem dM_counts_43 : decode prog_7_method_13_code 43 = .ok (.bipush 64, 2) := by decide +kernel
theorem dM_counts_45 : decode prog_7_method_13_code 45 = .ok (.iload_n 1, 1) := by decide +kernel
theorem dM_counts_46 : decode prog_7_method_13_code 46 = .ok (.imul, 1) := by decide +kernel
theorem dM_counts_47 : decode prog_7_method_13_code 47 = .ok (.iload 4, 2) := by decide +kernel
theorem dM_counts_49 : decode prog_7_method_13_code 49 = .ok (.iconst 1, 1) := by decide +kernel
theorem dM_counts_50 : decode prog_7_method_13_code 50 = .ok (.isub, 1) := by decide +kernel
theorem dM_counts_51 : decode prog_7_method_13_code 51 = .ok (.iconst 2, 1) := by decide +kernel
theorem dM_counts_52 : decode prog_7_method_13_code 52 = .ok (.idiv, 1) := by decide +kernel
theorem dM_counts_53 : decode prog_7_method_13_code 53 = .ok (.iadd, 1) := by decide +kernel
theorem dM_counts_54 : decode prog_7_method_13_code 54 = .ok (.iload_n 3, 1) := by decide +kernel
theorem dM_counts_55 : decode prog_7_method_13_code 55 = .ok (.iastore, 1) := by decide +kernel
theorem dM_counts_56 : decode prog_7_method_13_code 56 = .ok (.aload_n 0, 1) := by decide +kernel
theorem dM_counts_57 : decode prog_7_method_13_code 57 = .ok (.iload_n 1, 1) := by decide +kernel
theorem dM_counts_58 : decode prog_7_method_13_code 58 = .ok (.iload 4, 2) := by decide +kernel
theorem dM_counts_60 : decode prog_7_method_13_code 60 = .ok (.iload_n 2, 1) := by decide +kernel
theorem dM_counts_61 : decode prog_7_method_13_code 61 = .ok (.invokevirtual 87, 3) := by decide +kernel
theorem dM_counts_64 : decode prog_7_method_13_code 64 = .ok (.aload_n 0, 1) := by decide +kernel
theorem dM_counts_65 : decode prog_7_method_13_code 65 = .ok (.iload_n 1, 1) := by decide +kernel
theorem dM_counts_66 : decode prog_7_method_13_code 66 = .ok (.iload 4, 2) := by decide +kernel
theorem dM_counts_68 : decode prog_7_method_13_code 68 = .ok (.iconst 1, 1) := by decide +kernel
theorem dM_counts_69 : decode prog_7_method_13_code 69 = .ok (.iadd, 1) := by decide +kernel
theorem dM_counts_70 : decode prog_7_method_13_code 70 = .ok (.bipush (-2), 2) := by decide +kernel
theorem dM_counts_72 : decode prog_7_method_13_code 72 = .ok (.invokevirtual 87, 3) := by decide +kernel
theorem dM_counts_75 : decode prog_7_method_13_code 75 = .ok (.aload_n 0, 1) := by decide +kernel
theorem dM_counts_76 : decode prog_7_method_13_code 76 = .ok (.iload_n 1, 1) := by decide +kernel
theorem dM_counts_77 : decode prog_7_method_13_code 77 = .ok (.aload_n 0, 1) := by decide +kernel
theorem dM_counts_78 : decode prog_7_method_13_code 78 = .ok (.iload_n 1, 1) := by decide +kernel
theorem dM_counts_79 : decode prog_7_method_13_code 79 = .ok (.iload_n 2, 1) := by decide +kernel
theorem dM_counts_80 : decode prog_7_method_13_code 80 = .ok (.invokevirtual 84, 3) := by decide +kernel
theorem dM_counts_83 : decode prog_7_method_13_code 83 = .ok (.invokevirtual 80, 3) := by decide +kernel
theorem dM_counts_86 : decode prog_7_method_13_code 86 = .ok (.istore_n 3, 1) := by decide +kernel
theorem dM_counts_87 : decode prog_7_method_13_code 87 = .ok (.iload_n 3, 1) := by decide +kernel
theorem dM_counts_88 : decode prog_7_method_13_code 88 = .ok (.iconst (-1), 1) := by decide +kernel
theorem dM_counts_89 : decode prog_7_method_13_code 89 = .ok (.if_icmp .eq 144, 3) := by decide +kernel
theorem dM_counts_92 : decode prog_7_method_13_code 92 = .ok (.iload_n 3, 1) := by decide +kernel
theorem dM_counts_93 : decode prog_7_method_13_code 93 = .ok (.istore 4, 2) := by decide +kernel
theorem dM_counts_95 : decode prog_7_method_13_code 95 = .ok (.aload_n 0, 1) := by decide +kernel
theorem dM_counts_96 : decode prog_7_method_13_code 96 = .ok (.iload_n 1, 1) := by decide +kernel
theorem dM_counts_97 : decode prog_7_method_13_code 97 = .ok (.iload_n 3, 1) := by decide +kernel
theorem dM_counts_98 : decode prog_7_method_13_code 98 = .ok (.invokevirtual 91, 3) := by decide +kernel
theorem dM_counts_101 : decode prog_7_method_13_code 101 = .ok (.istore 5, 2) := by decide +kernel
theorem dM_counts_103 : decode prog_7_method_13_code 103 = .ok (.iload_n 3, 1) := by decide +kernel
theorem dM_counts_104 : decode prog_7_method_13_code 104 = .ok (.iconst 1, 1) := by decide +kernel
theorem dM_counts_105 : decode prog_7_method_13_code 105 = .ok (.isub, 1) := by decide +kernel
theorem dM_counts_106 : decode prog_7_method_13_code 106 = .ok (.istore 6, 2) := by decide +kernel
theorem dM_counts_108 : decode prog_7_method_13_code 108 = .ok (.iload 6, 2) := by decide +kernel
theorem dM_counts_110 : decode prog_7_method_13_code 110 = .ok (.ifCond .lt 41, 3) := by decide +kernel
theorem dM_counts_113 : decode prog_7_method_13_code 113 = .ok (.iload 6, 2) := by decide +kernel
theorem dM_counts_115 : decode prog_7_method_13_code 115 = .ok (.iload 5, 2) := by decide +kernel
theorem dM_counts_117 : decode prog_7_method_13_code 117 = .ok (.if_icmp .eq 24, 3) := by decide +kernel
theorem dM_counts_120 : decode prog_7_method_13_code 120 = .ok (.aload_n 0, 1) := by decide +kernel
theorem dM_counts_121 : decode prog_7_method_13_code 121 = .ok (.iload_n 1, 1) := by decide +kernel
theorem dM_counts_122 : decode prog_7_method_13_code 122 = .ok (.iload 6, 2) := by decide +kernel
theorem dM_counts_124 : decode prog_7_method_13_code 124 = .ok (.invokevirtual 94, 3) := by decide +kernel
theorem dM_counts_127 : decode prog_7_method_13_code 127 = .ok (.aload_n 0, 1) := by decide +kernel
theorem dM_counts_128 : decode prog_7_method_13_code 128 = .ok (.iload_n 1, 1) := by decide +kernel
theorem dM_counts_129 : decode prog_7_method_13_code 129 = .ok (.iload_n 3, 1) := by decide +kernel
theorem dM_counts_130 : decode prog_7_method_13_code 130 = .ok (.invokevirtual 94, 3) := by decide +kernel
theorem dM_counts_133 : decode prog_7_method_13_code 133 = .ok (.if_icmp .ne 8, 3) := by decide +kernel
theorem dM_counts_136 : decode prog_7_method_13_code 136 = .ok (.iload 6, 2) := by decide +kernel
theorem dM_counts_138 : decode prog_7_method_13_code 138 = .ok (.goto 5, 3) := by decide +kernel
theorem dM_counts_141 : decode prog_7_method_13_code 141 = .ok (.iload 4, 2) := by decide +kernel
theorem dM_counts_143 : decode prog_7_method_13_code 143 = .ok (.istore 4, 2) := by decide +kernel
theorem dM_counts_145 : decode prog_7_method_13_code 145 = .ok (.iinc 6 (-1), 3) := by decide +kernel
theorem dM_counts_148 : decode prog_7_method_13_code 148 = .ok (.goto (-40), 3) := by decide +kernel
theorem dM_counts_151 : decode prog_7_method_13_code 151 = .ok (.aload_n 0, 1) := by decide +kernel
theorem dM_counts_152 : decode prog_7_method_13_code 152 = .ok (.getfield 23, 3) := by decide +kernel
theorem dM_counts_155 : decode prog_7_method_13_code 155 = .ok (.sipush 129, 3) := by decide +kernel
theorem dM_counts_158 : decode prog_7_method_13_code 158 = .ok (.iload_n 1, 1) := by decide +kernel
theorem dM_counts_159 : decode prog_7_method_13_code 159 = .ok (.imul, 1) := by decide +kernel
theorem dM_counts_160 : decode prog_7_method_13_code 160 = .ok (.iload_n 3, 1) := by decide +kernel
theorem dM_counts_161 : decode prog_7_method_13_code 161 = .ok (.iadd, 1) := by decide +kernel
theorem dM_counts_162 : decode prog_7_method_13_code 162 = .ok (.iaload, 1) := by decide +kernel
theorem dM_counts_163 : decode prog_7_method_13_code 163 = .ok (.istore 6, 2) := by decide +kernel
theorem dM_counts_165 : decode prog_7_method_13_code 165 = .ok (.aload_n 0, 1) := by decide +kernel
theorem dM_counts_166 : decode prog_7_method_13_code 166 = .ok (.getfield 23, 3) := by decide +kernel
theorem dM_counts_169 : decode prog_7_method_13_code 169 = .ok (.sipush 129, 3) := by decide +kernel
theorem dM_counts_172 : decode prog_7_method_13_code 172 = .ok (.iload_n 1, 1) := by decide +kernel
theorem dM_counts_173 : decode prog_7_method_13_code 173 = .ok (.imul, 1) := by decide +kernel
theorem dM_counts_174 : decode prog_7_method_13_code 174 = .ok (.iload_n 3, 1) := by decide +kernel
theorem dM_counts_175 : decode prog_7_method_13_code 175 = .ok (.iadd, 1) := by decide +kernel
theorem dM_counts_176 : decode prog_7_method_13_code 176 = .ok (.aload_n 0, 1) := by decide +kernel
theorem dM_counts_177 : decode prog_7_method_13_code 177 = .ok (.getfield 23, 3) := by decide +kernel
theorem dM_counts_180 : decode prog_7_method_13_code 180 = .ok (.sipush 129, 3) := by decide +kernel
theorem dM_counts_183 : decode prog_7_method_13_code 183 = .ok (.iload_n 1, 1) := by decide +kernel
theorem dM_counts_184 : decode prog_7_method_13_code 184 = .ok (.imul, 1) := by decide +kernel
theorem dM_counts_185 : decode prog_7_method_13_code 185 = .ok (.iload 4, 2) := by decide +kernel
theorem dM_counts_187 : decode prog_7_method_13_code 187 = .ok (.iadd, 1) := by decide +kernel
theorem dM_counts_188 : decode prog_7_method_13_code 188 = .ok (.iaload, 1) := by decide +kernel
theorem dM_counts_189 : decode prog_7_method_13_code 189 = .ok (.iastore, 1) := by decide +kernel
theorem dM_counts_190 : decode prog_7_method_13_code 190 = .ok (.aload_n 0, 1) := by decide +kernel
theorem dM_counts_191 : decode prog_7_method_13_code 191 = .ok (.getfield 23, 3) := by decide +kernel
theorem dM_counts_194 : decode prog_7_method_13_code 194 = .ok (.sipush 129, 3) := by decide +kernel
theorem dM_counts_197 : decode prog_7_method_13_code 197 = .ok (.iload_n 1, 1) := by decide +kernel
theorem dM_counts_198 : decode prog_7_method_13_code 198 = .ok (.imul, 1) := by decide +kernel
theorem dM_counts_199 : decode prog_7_method_13_code 199 = .ok (.iload 4, 2) := by decide +kernel
theorem dM_counts_201 : decode prog_7_method_13_code 201 = .ok (.iadd, 1) := by decide +kernel
theorem dM_counts_202 : decode prog_7_method_13_code 202 = .ok (.iload 6, 2) := by decide +kernel
theorem dM_counts_204 : decode prog_7_method_13_code 204 = .ok (.iastore, 1) := by decide +kernel
theorem dM_counts_205 : decode prog_7_method_13_code 205 = .ok (.aload_n 0, 1) := by decide +kernel
theorem dM_counts_206 : decode prog_7_method_13_code 206 = .ok (.getfield 26, 3) := by decide +kernel
theorem dM_counts_209 : decode prog_7_method_13_code 209 = .ok (.sipush 129, 3) := by decide +kernel
theorem dM_counts_212 : decode prog_7_method_13_code 212 = .ok (.iload_n 1, 1) := by decide +kernel
theorem dM_counts_213 : decode prog_7_method_13_code 213 = .ok (.imul, 1) := by decide +kernel
theorem dM_counts_214 : decode prog_7_method_13_code 214 = .ok (.iload 6, 2) := by decide +kernel
theorem dM_counts_216 : decode prog_7_method_13_code 216 = .ok (.iadd, 1) := by decide +kernel
theorem dM_counts_217 : decode prog_7_method_13_code 217 = .ok (.dup2, 1) := by decide +kernel
theorem dM_counts_218 : decode prog_7_method_13_code 218 = .ok (.iaload, 1) := by decide +kernel
theorem dM_counts_219 : decode prog_7_method_13_code 219 = .ok (.iconst 1, 1) := by decide +kernel
theorem dM_counts_220 : decode prog_7_method_13_code 220 = .ok (.iadd, 1) := by decide +kernel
theorem dM_counts_221 : decode prog_7_method_13_code 221 = .ok (.iastore, 1) := by decide +kernel
theorem dM_counts_222 : decode prog_7_method_13_code 222 = .ok (.aload_n 0, 1) := by decide +kernel
theorem dM_counts_223 : decode prog_7_method_13_code 223 = .ok (.iload_n 1, 1) := by decide +kernel
theorem dM_counts_224 : decode prog_7_method_13_code 224 = .ok (.iload 4, 2) := by decide +kernel
theorem dM_counts_226 : decode prog_7_method_13_code 226 = .ok (.invokevirtual 91, 3) := by decide +kernel
theorem dM_counts_229 : decode prog_7_method_13_code 229 = .ok (.istore_n 3, 1) := by decide +kernel
theorem dM_counts_230 : decode prog_7_method_13_code 230 = .ok (.goto (-143), 3) := by decide +kernel
theorem dM_counts_233 : decode prog_7_method_13_code 233 = .ok (.aload_n 0, 1) := by decide +kernel
theorem dM_counts_234 : decode prog_7_method_13_code 234 = .ok (.iload_n 1, 1) := by decide +kernel
theorem dM_counts_235 : decode prog_7_method_13_code 235 = .ok (.iconst 0, 1) := by decide +kernel
theorem dM_counts_236 : decode prog_7_method_13_code 236 = .ok (.invokevirtual 94, 3) := by decide +kernel
theorem dM_counts_239 : decode prog_7_method_13_code 239 = .ok (.aload_n 0, 1) := by decide +kernel
theorem dM_counts_240 : decode prog_7_method_13_code 240 = .ok (.getfield 63, 3) := by decide +kernel
theorem dM_counts_243 : decode prog_7_method_13_code 243 = .ok (.if_icmp .lt 8, 3) := by decide +kernel
theorem dM_counts_246 : decode prog_7_method_13_code 246 = .ok (.aload_n 0, 1) := by decide +kernel
theorem dM_counts_247 : decode prog_7_method_13_code 247 = .ok (.iload_n 1, 1) := by decide +kernel
theorem dM_counts_248 : decode prog_7_method_13_code 248 = .ok (.invokevirtual 97, 3) := by decide +kernel
theorem dM_counts_251 : decode prog_7_method_13_code 251 = .ok (.return_, 1) := by decide +kernel
def LM_counts_108 (a0 : Nat) (p1 : Int32) (h18 : Hp) (x19 : Int32) (r22 : Int32) (K24 : Int32 → Option Hp) (rec40 : Int32 → Int32 → Option Hp) (x38 : Int32) (x39 : Int32) : Option Hp :=
  if x39 < 0 then
    (K24 x38)
  else
    (jn (fun (y41 : Int32) =>
    rec40 y41 (x39 + (-1)))
    (fun (j42 : Int32 → Option Hp) =>
    jn (j42 x38)
    (fun (j43 : Option Hp) =>
    if x39 = r22 then
      (j43)
    else
      (gd (isO h18 a0 5 = true) ((FM_countAt h18 a0 p1 x39).bind (fun r45 =>
      gd (isO h18 a0 5 = true) ((FM_countAt h18 a0 p1 x19).bind (fun r47 =>
      if r45 = r47 then
        (j42 x39)
      else
        (j43)))))))))
def LM_counts_87 (a0 : Nat) (p1 : Int32) (K10 : Hp → Option Hp) (rec20 : Hp → Int32 → Option Hp) (h18 : Hp) (x19 : Int32) : Option Hp :=
  if x19 = (-1) then
    (K10 h18)
  else
    (gd (isO h18 a0 5 = true) ((FM_above h18 a0 p1 x19).bind (fun r22 =>
    jn (fun (x23 : Int32) =>
    gR h18 a0 5 7 (fun a25 =>
    ldI h18 a25 0 ((129 * p1) + x19) (fun x26 =>
    gR h18 a0 5 7 (fun a27 =>
    gR h18 a0 5 7 (fun a28 =>
    ldI h18 a28 0 ((129 * p1) + x23) (fun x29 =>
    stI h18 a27 0 ((129 * p1) + x19) x29 (fun h30 =>
    gR h30 a0 5 7 (fun a31 =>
    stI h30 a31 0 ((129 * p1) + x23) x26 (fun h32 =>
    gR h32 a0 5 8 (fun a33 =>
    ldI h32 a33 0 ((129 * p1) + x26) (fun x34 =>
    stI h32 a33 0 ((129 * p1) + x26) (x34 + 1) (fun h35 =>
    gd (isO h35 a0 5 = true) ((FM_above h35 a0 p1 x23).bind (fun r37 =>
    rec20 h35 r37))))))))))))))
    (fun (K24 : Int32 → Option Hp) =>
    lpG (fun _ _ => none) fu (LM_counts_108 a0 p1 h18 x19 r22 K24) x19 (x19 - 1)))))
def FM_counts (h0 : Hp) (a0 : Nat) (p1 : Int32) (p2 : Int32) : Option Hp :=
  gd (isO h0 a0 5 = true) ((FM_nodeOf h0 a0 p1 p2).bind (fun r2 =>
  jn (fun (h3 : Hp) =>
  gd (isO h3 a0 5 = true) ((FM_nodeOf h3 a0 p1 p2).bind (fun r6 =>
  gd (isO h3 a0 5 = true) ((FM_placeOf h3 a0 p1 r6).bind (fun r8 =>
  jn (fun (h9 : Hp) =>
  gd (isO h9 a0 5 = true) ((FM_countAt h9 a0 p1 0).bind (fun r12 =>
  gI h9 a0 5 2 (fun x13 =>
  jn (fun (h14 : Hp) =>
  some h14)
  (fun (j15 : Hp → Option Hp) =>
  if r12 < x13 then
    (j15 h9)
  else
    (gd (isO h9 a0 5 = true) ((FM_halve h9 a0 p1).bind (fun r17 =>
    j15 r17))))))))
  (fun (K10 : Hp → Option Hp) =>
  lpG (fun _ _ => none) fu (LM_counts_87 a0 p1 K10) h3 r8))))))
  (fun (j4 : Hp → Option Hp) =>
  if r2 = (-1) then
    (gd (isO h0 a0 5 = true) ((FM_nodeOf h0 a0 p1 (-2)).bind (fun r49 =>
    gR h0 a0 5 4 (fun a50 =>
    ldI h0 a50 0 p1 (fun x51 =>
    gR h0 a0 5 9 (fun a52 =>
    stI h0 a52 0 ((129 * p1) + r49) (-1) (fun h53 =>
    gR h53 a0 5 10 (fun a54 =>
    gd (¬ 2 = 0) (
    stI h53 a54 0 ((64 * p1) + ((x51 - 1) / 2)) r49 (fun h55 =>
    gd (isO h55 a0 5 = true) ((FM_comes h55 a0 p1 x51 p2).bind (fun r57 =>
    gd (isO r57 a0 5 = true) ((FM_comes r57 a0 p1 (x51 + 1) (-2)).bind (fun r59 =>
    j4 r59))))))))))))))
  else
    (j4 h0))))
set_option maxRecDepth 100000 in
set_option maxHeartbeats 4000000 in
theorem mM_counts (l : Launch) (h0 : Hp) (z0 : Nat) (a0 : Nat) (p1 : Int32) (p2 : Int32) (r : Hp) (hr : FM_counts h0 a0 p1 p2 = some r) : vM False l yM_counts (Cond.code yM_counts prog_7_method_13_code 7 none :: gW) 2 [.ref a0, .int p1, .int p2] h0 z0 r z0 none 0 0 := by
  refine vM.of (by decide) rfl (Nat.le_of_ble_eq_true rfl) ?_
  intro p e s m args below meth c D dA C hin2
  refine (?_ : vO p l e (vR 2 0 0) s m args below meth c D dA (vA h0 z0) 7 False (fun r : Hp => MQ below (vQc False h0 z0 D dA r z0 none) args s 0 0 (vAr False h0 z0)) 0 0 h0 z0 [(0, .ref a0), (1, .int p1), (2, .int p2)] 0 [] (FM_counts h0 a0 p1 p2)) r hr
  obtain ⟨Q, hQ⟩ : ∃ Q : Hp → State → Prop, Q = (fun r : Hp => MQ below (vQc False h0 z0 D dA r z0 none) args s 0 0 (vAr False h0 z0)) := ⟨_, rfl⟩
  rw [← hQ]
  unfold FM_counts
  refine v_aload_n C dM_counts_0 rfl 0 rfl ?_
  refine v_iload_n C dM_counts_1 rfl 1 rfl ?_
  refine v_iload_n C dM_counts_2 rfl 2 rfl ?_
  refine v_gd fun hO1 => ?_
  refine v_bind fun r2 hr2 => ?_
  refine v_callV0 (N := 2) (As := [.int p1, .int p2]) (st := []) C (fun _ => trivial) (mM_nodeOf l h0 z0 a0 p1 p2 r2 hr2) rfl w_723 w_53 (by decide +kernel) ⟨Nat.le_of_ble_eq_true rfl, Nat.le_of_ble_eq_true rfl⟩ rfl rfl (Nat.le_of_ble_eq_true rfl) ⟨Nat.zero_le _, Nat.zero_le _⟩ w_720 w_722 w_28 v_cl5 rfl hO1 dM_counts_3 ?_
  refine v_iconst (v := (-1)) C dM_counts_6 (by decide) ?_
  refine v_jn (fun (j : Hp → Option Hp) => ∀ (h3 : Hp), vO p l e (vR 2 0 0) s m args below meth c D dA (vA h0 z0) 7 False Q 0 0 h3 z0 [(0, .ref a0), (1, .int p1), (2, .int p2)] 75 [] (j h3)) ?_ (fun j4 Hj4 => ?_)
  · intro h3
    refine v_aload_n C dM_counts_75 rfl 0 rfl ?_
    refine v_iload_n C dM_counts_76 rfl 1 rfl ?_
    refine v_aload_n C dM_counts_77 rfl 0 rfl ?_
    refine v_iload_n C dM_counts_78 rfl 1 rfl ?_
    refine v_iload_n C dM_counts_79 rfl 2 rfl ?_
    refine v_gd fun hO5 => ?_
    refine v_bind fun r6 hr6 => ?_
    refine v_callV0 (N := 2) (As := [.int p1, .int p2]) (st := [.int p1, .ref a0]) C (fun _ => trivial) (mM_nodeOf l h3 z0 a0 p1 p2 r6 hr6) rfl w_723 w_53 (by decide +kernel) ⟨Nat.le_of_ble_eq_true rfl, Nat.le_of_ble_eq_true rfl⟩ rfl rfl (Nat.le_of_ble_eq_true rfl) ⟨Nat.zero_le _, Nat.zero_le _⟩ w_720 w_722 w_28 v_cl5 rfl hO5 dM_counts_80 ?_
    refine v_gd fun hO7 => ?_
    refine v_bind fun r8 hr8 => ?_
    refine v_callV0 (N := 2) (As := [.int p1, .int r6]) (st := []) C (fun _ => trivial) (mM_placeOf l h3 z0 a0 p1 r6 r8 hr8) rfl w_727 w_53 (by decide +kernel) ⟨Nat.le_of_ble_eq_true rfl, Nat.le_of_ble_eq_true rfl⟩ rfl rfl (Nat.le_of_ble_eq_true rfl) ⟨Nat.zero_le _, Nat.zero_le _⟩ w_724 w_726 w_29 v_cl5 rfl hO7 dM_counts_83 ?_
    refine v_istore_n (lv' := [(0, .ref a0), (1, .int p1), (3, .int r8)]) C dM_counts_86 rfl (by decide) [1, 2, 0] rfl ?_
    refine v_jn (fun (j : Hp → Option Hp) => ∀ (h9 : Hp), vO p l e (vR 2 0 0) s m args below meth c D dA (vA h0 z0) 7 False Q 0 0 h9 z0 [(0, .ref a0), (1, .int p1)] 233 [] (j h9)) ?_ (fun K10 HK10 => ?_)
    · intro h9
      refine v_aload_n C dM_counts_233 rfl 0 rfl ?_
      refine v_iload_n C dM_counts_234 rfl 1 rfl ?_
      refine v_iconst (v := 0) C dM_counts_235 (by decide) ?_
      refine v_gd fun hO11 => ?_
      refine v_bind fun r12 hr12 => ?_
      refine v_callV0 (N := 2) (As := [.int p1, .int 0]) (st := []) C (fun _ => trivial) (mM_countAt l h9 z0 a0 p1 0 r12 hr12) rfl w_751 w_53 (by decide +kernel) ⟨Nat.le_of_ble_eq_true rfl, Nat.le_of_ble_eq_true rfl⟩ rfl rfl (Nat.le_of_ble_eq_true rfl) ⟨Nat.zero_le _, Nat.zero_le _⟩ w_748 w_750 w_35 v_cl5 rfl hO11 dM_counts_236 ?_
      refine v_aload_n C dM_counts_239 rfl 0 rfl ?_
      refine v_getI C v_cl5 (by decide) in_5 rfl w_611 dM_counts_240 (fun x13 => ?_)
      refine v_jn (fun (j : Hp → Option Hp) => ∀ (h14 : Hp), vO p l e (vR 2 0 0) s m args below meth c D dA (vA h0 z0) 7 False Q 0 0 h14 z0 [] 251 [] (j h14)) ?_ (fun j15 Hj15 => ?_)
      · intro h14
        exact v_vret C dM_counts_251 (by rw [hQ])
      · refine v_icmp_lt (tgt := 251) C dM_counts_243 (by decide) ?_ ?_
        · refine v_lv (lv' := []) [] rfl ?_
          exact Hj15 h9
        · refine v_aload_n C dM_counts_246 rfl 0 rfl ?_
          refine v_iload_n C dM_counts_247 rfl 1 rfl ?_
          refine v_gd fun hO16 => ?_
          refine v_bind fun r17 hr17 => ?_
          refine v_callV0 (N := 1) (As := [.int p1]) (st := []) C (fun f => f.elim) (mM_halve l h9 z0 a0 p1 r17 hr17) rfl w_755 w_53 (by decide +kernel) ⟨Nat.le_of_ble_eq_true rfl, Nat.le_of_ble_eq_true rfl⟩ rfl rfl (Nat.le_of_ble_eq_true rfl) ⟨Nat.zero_le _, Nat.zero_le _⟩ w_752 w_754 w_36 v_cl5 rfl hO16 dM_counts_248 ?_
          refine v_lv (lv' := []) [] rfl ?_
          exact Hj15 r17
    · refine lpG_ind (bot := (fun _ _ => none)) (B := LM_counts_87 a0 p1 K10) (fun (r : Hp → Int32 → Option Hp) => ∀ (h18 : Hp), ∀ (x19 : Int32), vO p l e (vR 2 0 0) s m args below meth c D dA (vA h0 z0) 7 False Q 0 0 h18 z0 [(0, .ref a0), (1, .int p1), (3, .int x19)] 87 [] (r h18 x19)) ?_ ?_ fu h3 r8
      · intro h18 x19
        exact v_none
      · intro rec20 Hrec20 h18 x19
        unfold LM_counts_87
        refine v_iload_n C dM_counts_87 rfl 2 rfl ?_
        refine v_iconst (v := (-1)) C dM_counts_88 (by decide) ?_
        refine v_icmp_eq (tgt := 233) C dM_counts_89 (by decide) ?_ ?_
        · refine v_lv (lv' := [(0, .ref a0), (1, .int p1)]) [0, 1] rfl ?_
          exact HK10 h18
        · refine v_iload_n C dM_counts_92 rfl 2 rfl ?_
          refine v_istore (lv' := [(0, .ref a0), (1, .int p1), (3, .int x19), (4, .int x19)]) C dM_counts_93 (by decide) [1, 2, 3, 0] rfl ?_
          refine v_aload_n C dM_counts_95 rfl 0 rfl ?_
          refine v_iload_n C dM_counts_96 rfl 1 rfl ?_
          refine v_iload_n C dM_counts_97 rfl 2 rfl ?_
          refine v_gd fun hO21 => ?_
          refine v_bind fun r22 hr22 => ?_
          refine v_callV0 (N := 2) (As := [.int p1, .int x19]) (st := []) C (fun _ => trivial) (mM_above l h18 z0 a0 p1 x19 r22 hr22) rfl w_735 w_53 (by decide +kernel) ⟨Nat.le_of_ble_eq_true rfl, Nat.le_of_ble_eq_true rfl⟩ rfl rfl (Nat.le_of_ble_eq_true rfl) ⟨Nat.zero_le _, Nat.zero_le _⟩ w_732 w_734 w_31 v_cl5 rfl hO21 dM_counts_98 ?_
          refine v_istore (lv' := [(0, .ref a0), (1, .int p1), (3, .int x19), (4, .int x19), (5, .int r22)]) C dM_counts_101 (by decide) [1, 2, 3, 4, 0] rfl ?_
          refine v_iload_n C dM_counts_103 rfl 2 rfl ?_
          refine v_iconst (v := 1) C dM_counts_104 (by decide) ?_
          refine v_isub C dM_counts_105 ?_
          refine v_istore (lv' := [(0, .ref a0), (1, .int p1), (3, .int x19), (4, .int x19), (5, .int r22), (6, .int (x19 - 1))]) C dM_counts_106 (by decide) [1, 2, 3, 4, 5, 0] rfl ?_
          refine v_jn (fun (j : Int32 → Option Hp) => ∀ (x23 : Int32), vO p l e (vR 2 0 0) s m args below meth c D dA (vA h0 z0) 7 False Q 0 0 h18 z0 [(0, .ref a0), (1, .int p1), (3, .int x19), (4, .int x23)] 151 [] (j x23)) ?_ (fun K24 HK24 => ?_)
          · intro x23
            refine v_aload_n C dM_counts_151 rfl 0 rfl ?_
            refine v_getR C v_cl5 (by decide) in_5 rfl w_616 dM_counts_152 (fun a25 => ?_)
            refine v_sipush (v := 129) C dM_counts_155 (by decide) ?_
            refine v_iload_n C dM_counts_158 rfl 1 rfl ?_
            refine v_imul C dM_counts_159 ?_
            refine v_iload_n C dM_counts_160 rfl 2 rfl ?_
            refine v_iadd C dM_counts_161 ?_
            refine v_iald C rfl dM_counts_162 (fun x26 => ?_)
            refine v_istore (lv' := [(0, .ref a0), (1, .int p1), (3, .int x19), (4, .int x23), (6, .int x26)]) C dM_counts_163 (by decide) [1, 2, 3, 4, 0] rfl ?_
            refine v_aload_n C dM_counts_165 rfl 0 rfl ?_
            refine v_getR C v_cl5 (by decide) in_5 rfl w_616 dM_counts_166 (fun a27 => ?_)
            refine v_sipush (v := 129) C dM_counts_169 (by decide) ?_
            refine v_iload_n C dM_counts_172 rfl 1 rfl ?_
            refine v_imul C dM_counts_173 ?_
            refine v_iload_n C dM_counts_174 rfl 2 rfl ?_
            refine v_iadd C dM_counts_175 ?_
            refine v_aload_n C dM_counts_176 rfl 0 rfl ?_
            refine v_getR C v_cl5 (by decide) in_5 rfl w_616 dM_counts_177 (fun a28 => ?_)
            refine v_sipush (v := 129) C dM_counts_180 (by decide) ?_
            refine v_iload_n C dM_counts_183 rfl 1 rfl ?_
            refine v_imul C dM_counts_184 ?_
            refine v_iload C dM_counts_185 3 rfl ?_
            refine v_iadd C dM_counts_187 ?_
            refine v_iald C rfl dM_counts_188 (fun x29 => ?_)
            refine v_iast C rfl dM_counts_189 (fun h30 => ?_)
            refine v_aload_n C dM_counts_190 rfl 0 rfl ?_
            refine v_getR C v_cl5 (by decide) in_5 rfl w_616 dM_counts_191 (fun a31 => ?_)
            refine v_sipush (v := 129) C dM_counts_194 (by decide) ?_
            refine v_iload_n C dM_counts_197 rfl 1 rfl ?_
            refine v_imul C dM_counts_198 ?_
            refine v_iload C dM_counts_199 3 rfl ?_
            refine v_iadd C dM_counts_201 ?_
            refine v_iload C dM_counts_202 4 rfl ?_
            refine v_iast C rfl dM_counts_204 (fun h32 => ?_)
            refine v_aload_n C dM_counts_205 rfl 0 rfl ?_
            refine v_getR C v_cl5 (by decide) in_5 rfl w_617 dM_counts_206 (fun a33 => ?_)
            refine v_sipush (v := 129) C dM_counts_209 (by decide) ?_
            refine v_iload_n C dM_counts_212 rfl 1 rfl ?_
            refine v_imul C dM_counts_213 ?_
            refine v_iload C dM_counts_214 4 rfl ?_
            refine v_iadd C dM_counts_216 ?_
            refine v_dup2 C dM_counts_217 rfl rfl ?_
            refine v_iald C rfl dM_counts_218 (fun x34 => ?_)
            refine v_iconst (v := 1) C dM_counts_219 (by decide) ?_
            refine v_iadd C dM_counts_220 ?_
            refine v_iast C rfl dM_counts_221 (fun h35 => ?_)
            refine v_aload_n C dM_counts_222 rfl 0 rfl ?_
            refine v_iload_n C dM_counts_223 rfl 1 rfl ?_
            refine v_iload C dM_counts_224 3 rfl ?_
            refine v_gd fun hO36 => ?_
            refine v_bind fun r37 hr37 => ?_
            refine v_callV0 (N := 2) (As := [.int p1, .int x23]) (st := []) C (fun _ => trivial) (mM_above l h35 z0 a0 p1 x23 r37 hr37) rfl w_735 w_53 (by decide +kernel) ⟨Nat.le_of_ble_eq_true rfl, Nat.le_of_ble_eq_true rfl⟩ rfl rfl (Nat.le_of_ble_eq_true rfl) ⟨Nat.zero_le _, Nat.zero_le _⟩ w_732 w_734 w_31 v_cl5 rfl hO36 dM_counts_226 ?_
            refine v_istore_n (lv' := [(0, .ref a0), (1, .int p1), (3, .int r37)]) C dM_counts_229 rfl (by decide) [1, 2, 0] rfl ?_
            refine v_goto (tgt := 87) C dM_counts_230 (by decide) ?_
            exact Hrec20 h35 r37
          · refine lpG_ind (bot := (fun _ _ => none)) (B := LM_counts_108 a0 p1 h18 x19 r22 K24) (fun (r : Int32 → Int32 → Option Hp) => ∀ (x38 : Int32), ∀ (x39 : Int32), vO p l e (vR 2 0 0) s m args below meth c D dA (vA h0 z0) 7 False Q 0 0 h18 z0 [(0, .ref a0), (1, .int p1), (3, .int x19), (4, .int x38), (5, .int r22), (6, .int x39)] 108 [] (r x38 x39)) ?_ ?_ fu x19 (x19 - 1)
            · intro x38 x39
              exact v_none
            · intro rec40 Hrec40 x38 x39
              unfold LM_counts_108
              refine v_iload C dM_counts_108 5 rfl ?_
              refine v_if_lt (tgt := 151) C dM_counts_110 (by decide) ?_ ?_
              · refine v_lv (lv' := [(0, .ref a0), (1, .int p1), (3, .int x19), (4, .int x38)]) [0, 1, 2, 3] rfl ?_
                exact HK24 x38
              · refine v_iload C dM_counts_113 5 rfl ?_
                refine v_iload C dM_counts_115 4 rfl ?_
                refine v_jn (fun (j : Int32 → Option Hp) => ∀ (y41 : Int32), vO p l e (vR 2 0 0) s m args below meth c D dA (vA h0 z0) 7 False Q 0 0 h18 z0 [(0, .ref a0), (1, .int p1), (3, .int x19), (5, .int r22), (6, .int x39)] 143 [.int y41] (j y41)) ?_ (fun j42 Hj42 => ?_)
                · intro y41
                  refine v_istore (lv' := [(0, .ref a0), (1, .int p1), (3, .int x19), (4, .int y41), (5, .int r22), (6, .int x39)]) C dM_counts_143 (by decide) [1, 2, 3, 0, 4, 5] rfl ?_
                  refine v_iinc (v := (x39 + (-1))) (lv' := [(0, .ref a0), (1, .int p1), (3, .int x19), (4, .int y41), (5, .int r22), (6, .int (x39 + (-1)))]) C dM_counts_145 5 rfl rfl (by decide) [1, 2, 3, 4, 5, 0] rfl ?_
                  refine v_goto (tgt := 108) C dM_counts_148 (by decide) ?_
                  exact Hrec40 y41 (x39 + (-1))
                · refine v_jn (fun (j : Option Hp) => vO p l e (vR 2 0 0) s m args below meth c D dA (vA h0 z0) 7 False Q 0 0 h18 z0 [(0, .ref a0), (1, .int p1), (3, .int x19), (4, .int x38), (5, .int r22), (6, .int x39)] 141 [] j) ?_ (fun j43 Hj43 => ?_)
                  · refine v_iload C dM_counts_141 3 rfl ?_
                    refine v_lv (lv' := [(0, .ref a0), (1, .int p1), (3, .int x19), (5, .int r22), (6, .int x39)]) [0, 1, 2, 4, 5] rfl ?_
                    exact Hj42 x38
                  · refine v_icmp_eq (tgt := 141) C dM_counts_117 (by decide) ?_ ?_
                    · exact Hj43
                    · refine v_aload_n C dM_counts_120 rfl 0 rfl ?_
                      refine v_iload_n C dM_counts_121 rfl 1 rfl ?_
                      refine v_iload C dM_counts_122 5 rfl ?_
                      refine v_gd fun hO44 => ?_
                      refine v_bind fun r45 hr45 => ?_
                      refine v_callV0 (N := 2) (As := [.int p1, .int x39]) (st := []) C (fun _ => trivial) (mM_countAt l h18 z0 a0 p1 x39 r45 hr45) rfl w_751 w_53 (by decide +kernel) ⟨Nat.le_of_ble_eq_true rfl, Nat.le_of_ble_eq_true rfl⟩ rfl rfl (Nat.le_of_ble_eq_true rfl) ⟨Nat.zero_le _, Nat.zero_le _⟩ w_748 w_750 w_35 v_cl5 rfl hO44 dM_counts_124 ?_
                      refine v_aload_n C dM_counts_127 rfl 0 rfl ?_
                      refine v_iload_n C dM_counts_128 rfl 1 rfl ?_
                      refine v_iload_n C dM_counts_129 rfl 2 rfl ?_
                      refine v_gd fun hO46 => ?_
                      refine v_bind fun r47 hr47 => ?_
                      refine v_callV0 (N := 2) (As := [.int p1, .int x19]) (st := [.int r45]) C (fun _ => trivial) (mM_countAt l h18 z0 a0 p1 x19 r47 hr47) rfl w_751 w_53 (by decide +kernel) ⟨Nat.le_of_ble_eq_true rfl, Nat.le_of_ble_eq_true rfl⟩ rfl rfl (Nat.le_of_ble_eq_true rfl) ⟨Nat.zero_le _, Nat.zero_le _⟩ w_748 w_750 w_35 v_cl5 rfl hO46 dM_counts_130 ?_
                      refine v_icmp_ne (tgt := 141) C dM_counts_133 (by decide) ?_ ?_
                      · exact Hj43
                      · refine v_iload C dM_counts_136 5 rfl ?_
                        refine v_goto (tgt := 143) C dM_counts_138 (by decide) ?_
                        refine v_lv (lv' := [(0, .ref a0), (1, .int p1), (3, .int x19), (5, .int r22), (6, .int x39)]) [0, 1, 2, 4, 5] rfl ?_
                        exact Hj42 x39
  · refine v_icmp_ne (tgt := 75) C dM_counts_7 (by decide) ?_ ?_
    · exact Hj4 h0
    · refine v_aload_n C dM_counts_10 rfl 0 rfl ?_
      refine v_iload_n C dM_counts_11 rfl 1 rfl ?_
      refine v_bipush (v := (-2)) C dM_counts_12 (by decide) ?_
      refine v_gd fun hO48 => ?_
      refine v_bind fun r49 hr49 => ?_
      refine v_callV0 (N := 2) (As := [.int p1, .int (-2)]) (st := []) C (fun _ => trivial) (mM_nodeOf l h0 z0 a0 p1 (-2) r49 hr49) rfl w_723 w_53 (by decide +kernel) ⟨Nat.le_of_ble_eq_true rfl, Nat.le_of_ble_eq_true rfl⟩ rfl rfl (Nat.le_of_ble_eq_true rfl) ⟨Nat.zero_le _, Nat.zero_le _⟩ w_720 w_722 w_28 v_cl5 rfl hO48 dM_counts_14 ?_
      refine v_istore_n (lv' := [(0, .ref a0), (1, .int p1), (2, .int p2), (3, .int r49)]) C dM_counts_17 rfl (by decide) [1, 2, 3, 0] rfl ?_
      refine v_aload_n C dM_counts_18 rfl 0 rfl ?_
      refine v_getR C v_cl5 (by decide) in_5 rfl w_613 dM_counts_19 (fun a50 => ?_)
      refine v_iload_n C dM_counts_22 rfl 1 rfl ?_
      refine v_iald C rfl dM_counts_23 (fun x51 => ?_)
      refine v_istore (lv' := [(0, .ref a0), (1, .int p1), (2, .int p2), (3, .int r49), (4, .int x51)]) C dM_counts_24 (by decide) [1, 2, 3, 4, 0] rfl ?_
      refine v_aload_n C dM_counts_26 rfl 0 rfl ?_
      refine v_getR C v_cl5 (by decide) in_5 rfl w_618 dM_counts_27 (fun a52 => ?_)
      refine v_sipush (v := 129) C dM_counts_30 (by decide) ?_
      refine v_iload_n C dM_counts_33 rfl 1 rfl ?_
      refine v_imul C dM_counts_34 ?_
      refine v_iload_n C dM_counts_35 rfl 3 rfl ?_
      refine v_iadd C dM_counts_36 ?_
      refine v_iconst (v := (-1)) C dM_counts_37 (by decide) ?_
      refine v_iast C rfl dM_counts_38 (fun h53 => ?_)
      refine v_aload_n C dM_counts_39 rfl 0 rfl ?_
      refine v_getR C v_cl5 (by decide) in_5 rfl w_619 dM_counts_40 (fun a54 => ?_)
      refine v_bipush (v := 64) C dM_counts_43 (by decide) ?_
      refine v_iload_n C dM_counts_45 rfl 1 rfl ?_
      refine v_imul C dM_counts_46 ?_
      refine v_iload C dM_counts_47 4 rfl ?_
      refine v_iconst (v := 1) C dM_counts_49 (by decide) ?_
      refine v_isub C dM_counts_50 ?_
      refine v_iconst (v := 2) C dM_counts_51 (by decide) ?_
      refine v_idiv C dM_counts_52 ?_
      refine v_iadd C dM_counts_53 ?_
      refine v_iload_n C dM_counts_54 rfl 3 rfl ?_
      refine v_iast C rfl dM_counts_55 (fun h55 => ?_)
      refine v_aload_n C dM_counts_56 rfl 0 rfl ?_
      refine v_iload_n C dM_counts_57 rfl 1 rfl ?_
      refine v_iload C dM_counts_58 4 rfl ?_
      refine v_iload_n C dM_counts_60 rfl 2 rfl ?_
      refine v_gd fun hO56 => ?_
      refine v_bind fun r57 hr57 => ?_
      refine v_callV0 (N := 3) (As := [.int p1, .int x51, .int p2]) (st := []) C (fun f => f.elim) (mM_comes l h55 z0 a0 p1 x51 p2 r57 hr57) rfl w_747 w_53 (by decide +kernel) ⟨Nat.le_of_ble_eq_true rfl, Nat.le_of_ble_eq_true rfl⟩ rfl rfl (Nat.le_of_ble_eq_true rfl) ⟨Nat.zero_le _, Nat.zero_le _⟩ w_744 w_746 w_34 v_cl5 rfl hO56 dM_counts_61 ?_
      refine v_aload_n C dM_counts_64 rfl 0 rfl ?_
      refine v_iload_n C dM_counts_65 rfl 1 rfl ?_
      refine v_iload C dM_counts_66 4 rfl ?_
      refine v_iconst (v := 1) C dM_counts_68 (by decide) ?_
      refine v_iadd C dM_counts_69 ?_
      refine v_bipush (v := (-2)) C dM_counts_70 (by decide) ?_
      refine v_gd fun hO58 => ?_
      refine v_bind fun r59 hr59 => ?_
      refine v_callV0 (N := 3) (As := [.int p1, .int (x51 + 1), .int (-2)]) (st := []) C (fun f => f.elim) (mM_comes l r57 z0 a0 p1 (x51 + 1) (-2) r59 hr59) rfl w_747 w_53 (by decide +kernel) ⟨Nat.le_of_ble_eq_true rfl, Nat.le_of_ble_eq_true rfl⟩ rfl rfl (Nat.le_of_ble_eq_true rfl) ⟨Nat.zero_le _, Nat.zero_le _⟩ w_744 w_746 w_34 v_cl5 rfl hO58 dM_counts_72 ?_
      refine v_lv (lv' := [(0, .ref a0), (1, .int p1), (2, .int p2)]) [0, 1, 2] rfl ?_
      exact Hj4 r59
theorem dM_child_0 : decode prog_7_method_15_code 0 = .ok (.iconst (-1), 1) := by decide +kernel
theorem dM_child_1 : decode prog_7_method_15_code 1 = .ok (.istore 4, 2) := by decide +kernel
theorem dM_child_3 : decode prog_7_method_15_code 3 = .ok (.iconst 1, 1) := by decide +kernel
theorem dM_child_4 : decode prog_7_method_15_code 4 = .ok (.istore 5, 2) := by decide +kernel
theorem dM_child_6 : decode prog_7_method_15_code 6 = .ok (.iload 5, 2) := by decide +kernel
theorem dM_child_8 : decode prog_7_method_15_code 8 = .ok (.aload_n 0, 1) := by decide +kernel
theorem dM_child_9 : decode prog_7_method_15_code 9 = .ok (.getfield 13, 3) := by decide +kernel
theorem dM_child_12 : decode prog_7_method_15_code 12 = .ok (.iload_n 1, 1) := by decide +kernel
theorem dM_child_13 : decode prog_7_method_15_code 13 = .ok (.iaload, 1) := by decide +kernel
theorem dM_child_14 : decode prog_7_method_15_code 14 = .ok (.if_icmp .ge 52, 3) := by decide +kernel
theorem dM_child_17 : decode prog_7_method_15_code 17 = .ok (.aload_n 0, 1) := by decide +kernel
theorem dM_child_18 : decode prog_7_method_15_code 18 = .ok (.getfield 35, 3) := by decide +kernel
theorem dM_child_21 : decode prog_7_method_15_code 21 = .ok (.sipush 129, 3) := by decide +kernel
theorem dM_child_24 : decode prog_7_method_15_code 24 = .ok (.iload_n 1, 1) := by decide +kernel
theorem dM_child_25 : decode prog_7_method_15_code 25 = .ok (.imul, 1) := by decide +kernel
theorem dM_child_26 : decode prog_7_method_15_code 26 = .ok (.iload 5, 2) := by decide +kernel
theorem dM_child_28 : decode prog_7_method_15_code 28 = .ok (.iadd, 1) := by decide +kernel
theorem dM_child_29 : decode prog_7_method_15_code 29 = .ok (.iaload, 1) := by decide +kernel
theorem dM_child_30 : decode prog_7_method_15_code 30 = .ok (.iload_n 2, 1) := by decide +kernel
theorem dM_child_31 : decode prog_7_method_15_code 31 = .ok (.if_icmp .ne 25, 3) := by decide +kernel
theorem dM_child_34 : decode prog_7_method_15_code 34 = .ok (.aload_n 0, 1) := by decide +kernel
theorem dM_child_35 : decode prog_7_method_15_code 35 = .ok (.getfield 38, 3) := by decide +kernel
theorem dM_child_38 : decode prog_7_method_15_code 38 = .ok (.sipush 129, 3) := by decide +kernel
theorem dM_child_41 : decode prog_7_method_15_code 41 = .ok (.iload_n 1, 1) := by decide +kernel
theorem dM_child_42 : decode prog_7_method_15_code 42 = .ok (.imul, 1) := by decide +kernel
theorem dM_child_43 : decode prog_7_method_15_code 43 = .ok (.iload 5, 2) := by decide +kernel
theorem dM_child_45 : decode prog_7_method_15_code 45 = .ok (.iadd, 1) := by decide +kernel
theorem dM_child_46 : decode prog_7_method_15_code 46 = .ok (.baload, 1) := by decide +kernel
theorem dM_child_47 : decode prog_7_method_15_code 47 = .ok (.iload_n 3, 1) := by decide +kernel
theorem dM_child_48 : decode prog_7_method_15_code 48 = .ok (.if_icmp .ne 8, 3) := by decide +kernel
theorem dM_child_51 : decode prog_7_method_15_code 51 = .ok (.iload 5, 2) := by decide +kernel
theorem dM_child_53 : decode prog_7_method_15_code 53 = .ok (.goto 5, 3) := by decide +kernel
theorem dM_child_56 : decode prog_7_method_15_code 56 = .ok (.iload 4, 2) := by decide +kernel
theorem dM_child_58 : decode prog_7_method_15_code 58 = .ok (.istore 4, 2) := by decide +kernel
theorem dM_child_60 : decode prog_7_method_15_code 60 = .ok (.iinc 5 1, 3) := by decide +kernel
theorem dM_child_63 : decode prog_7_method_15_code 63 = .ok (.goto (-57), 3) := by decide +kernel
theorem dM_child_66 : decode prog_7_method_15_code 66 = .ok (.iload 4, 2) := by decide +kernel
theorem dM_child_68 : decode prog_7_method_15_code 68 = .ok (.ireturn, 1) := by decide +kernel
def LM_child_6 (h0 : Hp) (a0 : Nat) (p1 : Int32) (p2 : Int32) (p3 : Int32) (K2 : Int32 → Option Int32) (rec5 : Int32 → Int32 → Option Int32) (x3 : Int32) (x4 : Int32) : Option Int32 :=
  gR h0 a0 5 4 (fun a6 =>
  ldI h0 a6 0 p1 (fun x7 =>
  if x7 ≤ x4 then
    (K2 x3)
  else
    (gR h0 a0 5 11 (fun a8 =>
    ldI h0 a8 0 ((129 * p1) + x4) (fun x9 =>
    jn (fun (y10 : Int32) =>
    rec5 y10 (x4 + 1))
    (fun (j11 : Int32 → Option Int32) =>
    jn (j11 x3)
    (fun (j12 : Option Int32) =>
    if x9 = p2 then
      (gR h0 a0 5 12 (fun a13 =>
      ldI h0 a13 1 ((129 * p1) + x4) (fun x14 =>
      if x14 = p3 then
        (j11 x4)
      else
        (j12))))
    else
      (j12))))))))
def FM_child (h0 : Hp) (a0 : Nat) (p1 : Int32) (p2 : Int32) (p3 : Int32) : Option Int32 :=
  jn (fun (x1 : Int32) =>
  some x1)
  (fun (K2 : Int32 → Option Int32) =>
  lpG (fun _ _ => none) fu (LM_child_6 h0 a0 p1 p2 p3 K2) (-1) 1)
set_option maxRecDepth 100000 in
set_option maxHeartbeats 4000000 in
theorem mM_child (l : Launch) (h0 : Hp) (z0 : Nat) (a0 : Nat) (p1 : Int32) (p2 : Int32) (p3 : Int32) (r : Int32) (hr : FM_child h0 a0 p1 p2 p3 = some r) : vM True l yM_child (Cond.code yM_child prog_7_method_15_code 6 (some (.int)) :: gW) 0 [.ref a0, .int p1, .int p2, .int p3] h0 z0 h0 z0 (some (.int r)) 0 0 := by
  refine vM.of (by decide) rfl (Nat.le_of_ble_eq_true rfl) ?_
  intro p e s m args below meth c D dA C hin2
  refine (?_ : vO p l e (vR 0 0 0) s m args below meth c D dA (vA h0 z0) 6 True (fun r : Int32 => MQ below (vQc True h0 z0 D dA h0 z0 (some (.int r))) args s 0 0 (vAr True h0 z0)) 0 0 h0 z0 [(0, .ref a0), (1, .int p1), (2, .int p2), (3, .int p3)] 0 [] (FM_child h0 a0 p1 p2 p3)) r hr
  obtain ⟨Q, hQ⟩ : ∃ Q : Int32 → State → Prop, Q = (fun r : Int32 => MQ below (vQc True h0 z0 D dA h0 z0 (some (.int r))) args s 0 0 (vAr True h0 z0)) := ⟨_, rfl⟩
  rw [← hQ]
  unfold FM_child
  refine v_iconst (v := (-1)) C dM_child_0 (by decide) ?_
  refine v_istore (lv' := [(0, .ref a0), (1, .int p1), (2, .int p2), (3, .int p3), (4, .int (-1))]) C dM_child_1 (by decide) [1, 2, 3, 4, 0] rfl ?_
  refine v_iconst (v := 1) C dM_child_3 (by decide) ?_
  refine v_istore (lv' := [(0, .ref a0), (1, .int p1), (2, .int p2), (3, .int p3), (4, .int (-1)), (5, .int 1)]) C dM_child_4 (by decide) [1, 2, 3, 4, 5, 0] rfl ?_
  refine v_jn (fun (j : Int32 → Option Int32) => ∀ (x1 : Int32), vO p l e (vR 0 0 0) s m args below meth c D dA (vA h0 z0) 6 True Q 0 0 h0 z0 [(4, .int x1)] 66 [] (j x1)) ?_ (fun K2 HK2 => ?_)
  · intro x1
    refine v_iload C dM_child_66 0 rfl ?_
    exact v_iret C dM_child_68 (by rw [hQ])
  · refine lpG_ind (bot := (fun _ _ => none)) (B := LM_child_6 h0 a0 p1 p2 p3 K2) (fun (r : Int32 → Int32 → Option Int32) => ∀ (x3 : Int32), ∀ (x4 : Int32), vO p l e (vR 0 0 0) s m args below meth c D dA (vA h0 z0) 6 True Q 0 0 h0 z0 [(0, .ref a0), (1, .int p1), (2, .int p2), (3, .int p3), (4, .int x3), (5, .int x4)] 6 [] (r x3 x4)) ?_ ?_ fu (-1) 1
    · intro x3 x4
      exact v_none
    · intro rec5 Hrec5 x3 x4
      unfold LM_child_6
      refine v_iload C dM_child_6 5 rfl ?_
      refine v_aload_n C dM_child_8 rfl 0 rfl ?_
      refine v_getR C v_cl5 (by decide) in_5 rfl w_613 dM_child_9 (fun a6 => ?_)
      refine v_iload_n C dM_child_12 rfl 1 rfl ?_
      refine v_iald C rfl dM_child_13 (fun x7 => ?_)
      refine v_icmp_ge (tgt := 66) C dM_child_14 (by decide) ?_ ?_
      · refine v_lv (lv' := [(4, .int x3)]) [4] rfl ?_
        exact HK2 x3
      · refine v_aload_n C dM_child_17 rfl 0 rfl ?_
        refine v_getR C v_cl5 (by decide) in_5 rfl w_620 dM_child_18 (fun a8 => ?_)
        refine v_sipush (v := 129) C dM_child_21 (by decide) ?_
        refine v_iload_n C dM_child_24 rfl 1 rfl ?_
        refine v_imul C dM_child_25 ?_
        refine v_iload C dM_child_26 5 rfl ?_
        refine v_iadd C dM_child_28 ?_
        refine v_iald C rfl dM_child_29 (fun x9 => ?_)
        refine v_iload_n C dM_child_30 rfl 2 rfl ?_
        refine v_jn (fun (j : Int32 → Option Int32) => ∀ (y10 : Int32), vO p l e (vR 0 0 0) s m args below meth c D dA (vA h0 z0) 6 True Q 0 0 h0 z0 [(0, .ref a0), (1, .int p1), (2, .int p2), (3, .int p3), (5, .int x4)] 58 [.int y10] (j y10)) ?_ (fun j11 Hj11 => ?_)
        · intro y10
          refine v_istore (lv' := [(0, .ref a0), (1, .int p1), (2, .int p2), (3, .int p3), (4, .int y10), (5, .int x4)]) C dM_child_58 (by decide) [1, 2, 3, 4, 0, 5] rfl ?_
          refine v_iinc (v := (x4 + 1)) (lv' := [(0, .ref a0), (1, .int p1), (2, .int p2), (3, .int p3), (4, .int y10), (5, .int (x4 + 1))]) C dM_child_60 5 rfl rfl (by decide) [1, 2, 3, 4, 5, 0] rfl ?_
          refine v_goto (tgt := 6) C dM_child_63 (by decide) ?_
          exact Hrec5 y10 (x4 + 1)
        · refine v_jn (fun (j : Option Int32) => vO p l e (vR 0 0 0) s m args below meth c D dA (vA h0 z0) 6 True Q 0 0 h0 z0 [(0, .ref a0), (1, .int p1), (2, .int p2), (3, .int p3), (4, .int x3), (5, .int x4)] 56 [] j) ?_ (fun j12 Hj12 => ?_)
          · refine v_iload C dM_child_56 4 rfl ?_
            refine v_lv (lv' := [(0, .ref a0), (1, .int p1), (2, .int p2), (3, .int p3), (5, .int x4)]) [0, 1, 2, 3, 5] rfl ?_
            exact Hj11 x3
          · refine v_icmp_ne (tgt := 56) C dM_child_31 (by decide) ?_ ?_
            · exact Hj12
            · refine v_aload_n C dM_child_34 rfl 0 rfl ?_
              refine v_getR C v_cl5 (by decide) in_5 rfl w_621 dM_child_35 (fun a13 => ?_)
              refine v_sipush (v := 129) C dM_child_38 (by decide) ?_
              refine v_iload_n C dM_child_41 rfl 1 rfl ?_
              refine v_imul C dM_child_42 ?_
              refine v_iload C dM_child_43 5 rfl ?_
              refine v_iadd C dM_child_45 ?_
              refine v_zald C rfl dM_child_46 (fun x14 => ?_)
              refine v_iload_n C dM_child_47 rfl 3 rfl ?_
              refine v_icmp_ne (tgt := 56) C dM_child_48 (by decide) ?_ ?_
              · exact Hj12
              · refine v_iload C dM_child_51 5 rfl ?_
                refine v_goto (tgt := 58) C dM_child_53 (by decide) ?_
                refine v_lv (lv' := [(0, .ref a0), (1, .int p1), (2, .int p2), (3, .int p3), (5, .int x4)]) [0, 1, 2, 3, 5] rfl ?_
                exact Hj11 x4
theorem dM_splays_0 : decode prog_7_method_16_code 0 = .ok (.aload_n 0, 1) := by decide +kernel
theorem dM_splays_1 : decode prog_7_method_16_code 1 = .ok (.getfield 56, 3) := by decide +kernel
theorem dM_splays_4 : decode prog_7_method_16_code 4 = .ok (.iconst 1, 1) := by decide +kernel
theorem dM_splays_5 : decode prog_7_method_16_code 5 = .ok (.isub, 1) := by decide +kernel
theorem dM_splays_6 : decode prog_7_method_16_code 6 = .ok (.iload_n 2, 1) := by decide +kernel
theorem dM_splays_7 : decode prog_7_method_16_code 7 = .ok (.iadd, 1) := by decide +kernel
theorem dM_splays_8 : decode prog_7_method_16_code 8 = .ok (.istore_n 3, 1) := by decide +kernel
theorem dM_splays_9 : decode prog_7_method_16_code 9 = .ok (.aload_n 0, 1) := by decide +kernel
theorem dM_splays_10 : decode prog_7_method_16_code 10 = .ok (.getfield 35, 3) := by decide +kernel
theorem dM_splays_13 : decode prog_7_method_16_code 13 = .ok (.sipush 129, 3) := by decide +kernel
theorem dM_splays_16 : decode prog_7_method_16_code 16 = .ok (.iload_n 1, 1) := by decide +kernel
theorem dM_splays_17 : decode prog_7_method_16_code 17 = .ok (.imul, 1) := by decide +kernel
theorem dM_splays_18 : decode prog_7_method_16_code 18 = .ok (.iload_n 3, 1) := by decide +kernel
theorem dM_splays_19 : decode prog_7_method_16_code 19 = .ok (.iadd, 1) := by decide +kernel
theorem dM_splays_20 : decode prog_7_method_16_code 20 = .ok (.iaload, 1) := by decide +kernel
theorem dM_splays_21 : decode prog_7_method_16_code 21 = .ok (.iconst (-1), 1) := by decide +kernel
theorem dM_splays_22 : decode prog_7_method_16_code 22 = .ok (.if_icmp .eq 178, 3) := by decide +kernel
theorem dM_splays_25 : decode prog_7_method_16_code 25 = .ok (.aload_n 0, 1) := by decide +kernel
theorem dM_splays_26 : decode prog_7_method_16_code 26 = .ok (.getfield 35, 3) := by decide +kernel
theorem dM_splays_29 : decode prog_7_method_16_code 29 = .ok (.sipush 129, 3) := by decide +kernel
theorem dM_splays_32 : decode prog_7_method_16_code 32 = .ok (.iload_n 1, 1) := by decide +kernel
theorem dM_splays_33 : decode prog_7_method_16_code 33 = .ok (.imul, 1) := by decide +kernel
theorem dM_splays_34 : decode prog_7_method_16_code 34 = .ok (.aload_n 0, 1) := by decide +kernel
theorem dM_splays_35 : decode prog_7_method_16_code 35 = .ok (.getfield 35, 3) := by decide +kernel
theorem dM_splays_38 : decode prog_7_method_16_code 38 = .ok (.sipush 129, 3) := by decide +kernel
theorem dM_splays_41 : decode prog_7_method_16_code 41 = .ok (.iload_n 1, 1) := by decide +kernel
theorem dM_splays_42 : decode prog_7_method_16_code 42 = .ok (.imul, 1) := by decide +kernel
theorem dM_splays_43 : decode prog_7_method_16_code 43 = .ok (.iload_n 3, 1) := by decide +kernel
theorem dM_splays_44 : decode prog_7_method_16_code 44 = .ok (.iadd, 1) := by decide +kernel
theorem dM_splays_45 : decode prog_7_method_16_code 45 = .ok (.iaload, 1) := by decide +kernel
theorem dM_splays_46 : decode prog_7_method_16_code 46 = .ok (.iadd, 1) := by decide +kernel
theorem dM_splays_47 : decode prog_7_method_16_code 47 = .ok (.iaload, 1) := by decide +kernel
theorem dM_splays_48 : decode prog_7_method_16_code 48 = .ok (.iconst (-1), 1) := by decide +kernel
theorem dM_splays_49 : decode prog_7_method_16_code 49 = .ok (.if_icmp .eq 151, 3) := by decide +kernel
theorem dM_splays_52 : decode prog_7_method_16_code 52 = .ok (.aload_n 0, 1) := by decide +kernel
theorem dM_splays_53 : decode prog_7_method_16_code 53 = .ok (.getfield 35, 3) := by decide +kernel
theorem dM_splays_56 : decode prog_7_method_16_code 56 = .ok (.sipush 129, 3) := by decide +kernel
theorem dM_splays_59 : decode prog_7_method_16_code 59 = .ok (.iload_n 1, 1) := by decide +kernel
theorem dM_splays_60 : decode prog_7_method_16_code 60 = .ok (.imul, 1) := by decide +kernel
theorem dM_splays_61 : decode prog_7_method_16_code 61 = .ok (.iload_n 3, 1) := by decide +kernel
theorem dM_splays_62 : decode prog_7_method_16_code 62 = .ok (.iadd, 1) := by decide +kernel
theorem dM_splays_63 : decode prog_7_method_16_code 63 = .ok (.iaload, 1) := by decide +kernel
theorem dM_splays_64 : decode prog_7_method_16_code 64 = .ok (.istore 4, 2) := by decide +kernel
theorem dM_splays_66 : decode prog_7_method_16_code 66 = .ok (.aload_n 0, 1) := by decide +kernel
theorem dM_splays_67 : decode prog_7_method_16_code 67 = .ok (.getfield 35, 3) := by decide +kernel
theorem dM_splays_70 : decode prog_7_method_16_code 70 = .ok (.sipush 129, 3) := by decide +kernel
theorem dM_splays_73 : decode prog_7_method_16_code 73 = .ok (.iload_n 1, 1) := by decide +kernel
theorem dM_splays_74 : decode prog_7_method_16_code 74 = .ok (.imul, 1) := by decide +kernel
theorem dM_splays_75 : decode prog_7_method_16_code 75 = .ok (.iload 4, 2) := by decide +kernel
theorem dM_splays_77 : decode prog_7_method_16_code 77 = .ok (.iadd, 1) := by decide +kernel
theorem dM_splays_78 : decode prog_7_method_16_code 78 = .ok (.iaload, 1) := by decide +kernel
theorem dM_splays_79 : decode prog_7_method_16_code 79 = .ok (.istore 5, 2) := by decide +kernel
theorem dM_splays_81 : decode prog_7_method_16_code 81 = .ok (.aload_n 0, 1) := by decide +kernel
theorem dM_splays_82 : decode prog_7_method_16_code 82 = .ok (.iload_n 1, 1) := by decide +kernel
theorem dM_splays_83 : decode prog_7_method_16_code 83 = .ok (.iload 5, 2) := by decide +kernel
theorem dM_splays_85 : decode prog_7_method_16_code 85 = .ok (.aload_n 0, 1) := by decide +kernel
theorem dM_splays_86 : decode prog_7_method_16_code 86 = .ok (.getfield 38, 3) := by decide +kernel
theorem dM_splays_89 : decode prog_7_method_16_code 89 = .ok (.sipush 129, 3) := by decide +kernel
theorem dM_splays_92 : decode prog_7_method_16_code 92 = .ok (.iload_n 1, 1) := by decide +kernel
theorem dM_splays_93 : decode prog_7_method_16_code 93 = .ok (.imul, 1) := by decide +kernel
theorem dM_splays_94 : decode prog_7_method_16_code 94 = .ok (.iload 4, 2) := by decide +kernel
theorem dM_splays_96 : decode prog_7_method_16_code 96 = .ok (.iadd, 1) := by decide +kernel
theorem dM_splays_97 : decode prog_7_method_16_code 97 = .ok (.baload, 1) := by decide +kernel
theorem dM_splays_98 : decode prog_7_method_16_code 98 = .ok (.ifCond .ne 7, 3) := by decide +kernel
theorem dM_splays_101 : decode prog_7_method_16_code 101 = .ok (.iconst 1, 1) := by decide +kernel
theorem dM_splays_102 : decode prog_7_method_16_code 102 = .ok (.goto 4, 3) := by decide +kernel
theorem dM_splays_105 : decode prog_7_method_16_code 105 = .ok (.iconst 0, 1) := by decide +kernel
theorem dM_splays_106 : decode prog_7_method_16_code 106 = .ok (.invokevirtual 104, 3) := by decide +kernel
theorem dM_splays_109 : decode prog_7_method_16_code 109 = .ok (.istore 6, 2) := by decide +kernel
theorem dM_splays_111 : decode prog_7_method_16_code 111 = .ok (.aload_n 0, 1) := by decide +kernel
theorem dM_splays_112 : decode prog_7_method_16_code 112 = .ok (.getfield 38, 3) := by decide +kernel
theorem dM_splays_115 : decode prog_7_method_16_code 115 = .ok (.sipush 129, 3) := by decide +kernel
theorem dM_splays_118 : decode prog_7_method_16_code 118 = .ok (.iload_n 1, 1) := by decide +kernel
theorem dM_splays_119 : decode prog_7_method_16_code 119 = .ok (.imul, 1) := by decide +kernel
theorem dM_splays_120 : decode prog_7_method_16_code 120 = .ok (.iload_n 3, 1) := by decide +kernel
theorem dM_splays_121 : decode prog_7_method_16_code 121 = .ok (.iadd, 1) := by decide +kernel
theorem dM_splays_122 : decode prog_7_method_16_code 122 = .ok (.baload, 1) := by decide +kernel
theorem dM_splays_123 : decode prog_7_method_16_code 123 = .ok (.istore 7, 2) := by decide +kernel
theorem dM_splays_125 : decode prog_7_method_16_code 125 = .ok (.aload_n 0, 1) := by decide +kernel
theorem dM_splays_126 : decode prog_7_method_16_code 126 = .ok (.getfield 35, 3) := by decide +kernel
theorem dM_splays_129 : decode prog_7_method_16_code 129 = .ok (.sipush 129, 3) := by decide +kernel
theorem dM_splays_132 : decode prog_7_method_16_code 132 = .ok (.iload_n 1, 1) := by decide +kernel
theorem dM_splays_133 : decode prog_7_method_16_code 133 = .ok (.imul, 1) := by decide +kernel
theorem dM_splays_134 : decode prog_7_method_16_code 134 = .ok (.iload_n 3, 1) := by decide +kernel
theorem dM_splays_135 : decode prog_7_method_16_code 135 = .ok (.iadd, 1) := by decide +kernel
theorem dM_splays_136 : decode prog_7_method_16_code 136 = .ok (.iload 5, 2) := by decide +kernel
theorem dM_splays_138 : decode prog_7_method_16_code 138 = .ok (.iastore, 1) := by decide +kernel
theorem dM_splays_139 : decode prog_7_method_16_code 139 = .ok (.aload_n 0, 1) := by decide +kernel
theorem dM_splays_140 : decode prog_7_method_16_code 140 = .ok (.getfield 38, 3) := by decide +kernel
theorem dM_splays_143 : decode prog_7_method_16_code 143 = .ok (.sipush 129, 3) := by decide +kernel
theorem dM_splays_146 : decode prog_7_method_16_code 146 = .ok (.iload_n 1, 1) := by decide +kernel
theorem dM_splays_147 : decode prog_7_method_16_code 147 = .ok (.imul, 1) := by decide +kernel
theorem dM_splays_148 : decode prog_7_method_16_code 148 = .ok (.iload_n 3, 1) := by decide +kernel
theorem dM_splays_149 : decode prog_7_method_16_code 149 = .ok (.iadd, 1) := by decide +kernel
theorem dM_splays_150 : decode prog_7_method_16_code 150 = .ok (.aload_n 0, 1) := by decide +kernel
theorem dM_splays_151 : decode prog_7_method_16_code 151 = .ok (.getfield 38, 3) := by decide +kernel
theorem dM_splays_154 : decode prog_7_method_16_code 154 = .ok (.sipush 129, 3) := by decide +kernel
theorem dM_splays_157 : decode prog_7_method_16_code 157 = .ok (.iload_n 1, 1) := by decide +kernel
theorem dM_splays_158 : decode prog_7_method_16_code 158 = .ok (.imul, 1) := by decide +kernel
theorem dM_splays_159 : decode prog_7_method_16_code 159 = .ok (.iload 6, 2) := by decide +kernel
theorem dM_splays_161 : decode prog_7_method_16_code 161 = .ok (.iadd, 1) := by decide +kernel
theorem dM_splays_162 : decode prog_7_method_16_code 162 = .ok (.baload, 1) := by decide +kernel
theorem dM_splays_163 : decode prog_7_method_16_code 163 = .ok (.bastore, 1) := by decide +kernel
theorem dM_splays_164 : decode prog_7_method_16_code 164 = .ok (.aload_n 0, 1) := by decide +kernel
theorem dM_splays_165 : decode prog_7_method_16_code 165 = .ok (.getfield 35, 3) := by decide +kernel
theorem dM_splays_168 : decode prog_7_method_16_code 168 = .ok (.sipush 129, 3) := by decide +kernel
theorem dM_splays_171 : decode prog_7_method_16_code 171 = .ok (.iload_n 1, 1) := by decide +kernel
theorem dM_splays_172 : decode prog_7_method_16_code 172 = .ok (.imul, 1) := by decide +kernel
theorem dM_splays_173 : decode prog_7_method_16_code 173 = .ok (.iload 6, 2) := by decide +kernel
theorem dM_splays_175 : decode prog_7_method_16_code 175 = .ok (.iadd, 1) := by decide +kernel
theorem dM_splays_176 : decode prog_7_method_16_code 176 = .ok (.iload 4, 2) := by decide +kernel
theorem dM_splays_178 : decode prog_7_method_16_code 178 = .ok (.iastore, 1) := by decide +kernel
theorem dM_splays_179 : decode prog_7_method_16_code 179 = .ok (.aload_n 0, 1) := by decide +kernel
theorem dM_splays_180 : decode prog_7_method_16_code 180 = .ok (.getfield 38, 3) := by decide +kernel
theorem dM_splays_183 : decode prog_7_method_16_code 183 = .ok (.sipush 129, 3) := by decide +kernel
theorem dM_splays_186 : decode prog_7_method_16_code 186 = .ok (.iload_n 1, 1) := by decide +kernel
theorem dM_splays_187 : decode prog_7_method_16_code 187 = .ok (.imul, 1) := by decide +kernel
theorem dM_splays_188 : decode prog_7_method_16_code 188 = .ok (.iload 6, 2) := by decide +kernel
theorem dM_splays_190 : decode prog_7_method_16_code 190 = .ok (.iadd, 1) := by decide +kernel
theorem dM_splays_191 : decode prog_7_method_16_code 191 = .ok (.iload 7, 2) := by decide +kernel
theorem dM_splays_193 : decode prog_7_method_16_code 193 = .ok (.bastore, 1) := by decide +kernel
theorem dM_splays_194 : decode prog_7_method_16_code 194 = .ok (.iload 5, 2) := by decide +kernel
theorem dM_splays_196 : decode prog_7_method_16_code 196 = .ok (.istore_n 3, 1) := by decide +kernel
theorem dM_splays_197 : decode prog_7_method_16_code 197 = .ok (.goto (-188), 3) := by decide +kernel
theorem dM_splays_200 : decode prog_7_method_16_code 200 = .ok (.return_, 1) := by decide +kernel
def LM_splays_9 (a0 : Nat) (p1 : Int32) (K3 : Hp → Option Hp) (rec6 : Hp → Int32 → Option Hp) (h4 : Hp) (x5 : Int32) : Option Hp :=
  gR h4 a0 5 11 (fun a7 =>
  ldI h4 a7 0 ((129 * p1) + x5) (fun x8 =>
  if x8 = (-1) then
    (K3 h4)
  else
    (gR h4 a0 5 11 (fun a9 =>
    gR h4 a0 5 11 (fun a10 =>
    ldI h4 a10 0 ((129 * p1) + x5) (fun x11 =>
    ldI h4 a9 0 ((129 * p1) + x11) (fun x12 =>
    if x12 = (-1) then
      (K3 h4)
    else
      (gR h4 a0 5 11 (fun a13 =>
      ldI h4 a13 0 ((129 * p1) + x5) (fun x14 =>
      gR h4 a0 5 11 (fun a15 =>
      ldI h4 a15 0 ((129 * p1) + x14) (fun x16 =>
      gR h4 a0 5 12 (fun a17 =>
      ldI h4 a17 1 ((129 * p1) + x14) (fun x18 =>
      jn (fun (y19 : Int32) (y20 : Int32) (y21 : Int32) (b22 : Nat) =>
      gd (isO h4 b22 5 = true) ((FM_child h4 b22 y21 y20 y19).bind (fun r25 =>
      gR h4 a0 5 12 (fun a26 =>
      ldI h4 a26 1 ((129 * p1) + x5) (fun x27 =>
      gR h4 a0 5 11 (fun a28 =>
      stI h4 a28 0 ((129 * p1) + x5) x16 (fun h29 =>
      gR h29 a0 5 12 (fun a30 =>
      gR h29 a0 5 12 (fun a31 =>
      ldI h29 a31 1 ((129 * p1) + r25) (fun x32 =>
      stI h29 a30 1 ((129 * p1) + x5) (vp_nar .boolean x32) (fun h33 =>
      gR h33 a0 5 11 (fun a34 =>
      stI h33 a34 0 ((129 * p1) + r25) x14 (fun h35 =>
      gR h35 a0 5 12 (fun a36 =>
      stI h35 a36 1 ((129 * p1) + r25) (vp_nar .boolean x27) (fun h37 =>
      rec6 h37 x16)))))))))))))))
      (fun (j23 : Int32 → Int32 → Int32 → Nat → Option Hp) =>
      if x18 = 0 then
        (j23 1 x16 p1 a0)
      else
        (j23 0 x16 p1 a0))))))))))))))))
def FM_splays (h0 : Hp) (a0 : Nat) (p1 : Int32) (p2 : Int32) : Option Hp :=
  gI h0 a0 5 0 (fun x1 =>
  jn (fun (h2 : Hp) =>
  some h2)
  (fun (K3 : Hp → Option Hp) =>
  lpG (fun _ _ => none) fu (LM_splays_9 a0 p1 K3) h0 ((x1 - 1) + p2)))
set_option maxRecDepth 100000 in
set_option maxHeartbeats 4000000 in
theorem mM_splays (l : Launch) (h0 : Hp) (z0 : Nat) (a0 : Nat) (p1 : Int32) (p2 : Int32) (r : Hp) (hr : FM_splays h0 a0 p1 p2 = some r) : vM False l yM_splays (Cond.code yM_splays prog_7_method_16_code 8 none :: gW) 1 [.ref a0, .int p1, .int p2] h0 z0 r z0 none 0 0 := by
  refine vM.of (by decide) rfl (Nat.le_of_ble_eq_true rfl) ?_
  intro p e s m args below meth c D dA C hin2
  refine (?_ : vO p l e (vR 1 0 0) s m args below meth c D dA (vA h0 z0) 8 False (fun r : Hp => MQ below (vQc False h0 z0 D dA r z0 none) args s 0 0 (vAr False h0 z0)) 0 0 h0 z0 [(0, .ref a0), (1, .int p1), (2, .int p2)] 0 [] (FM_splays h0 a0 p1 p2)) r hr
  obtain ⟨Q, hQ⟩ : ∃ Q : Hp → State → Prop, Q = (fun r : Hp => MQ below (vQc False h0 z0 D dA r z0 none) args s 0 0 (vAr False h0 z0)) := ⟨_, rfl⟩
  rw [← hQ]
  unfold FM_splays
  refine v_aload_n C dM_splays_0 rfl 0 rfl ?_
  refine v_getI C v_cl5 (by decide) in_5 rfl w_609 dM_splays_1 (fun x1 => ?_)
  refine v_iconst (v := 1) C dM_splays_4 (by decide) ?_
  refine v_isub C dM_splays_5 ?_
  refine v_iload_n C dM_splays_6 rfl 2 rfl ?_
  refine v_iadd C dM_splays_7 ?_
  refine v_istore_n (lv' := [(0, .ref a0), (1, .int p1), (3, .int ((x1 - 1) + p2))]) C dM_splays_8 rfl (by decide) [1, 2, 0] rfl ?_
  refine v_jn (fun (j : Hp → Option Hp) => ∀ (h2 : Hp), vO p l e (vR 1 0 0) s m args below meth c D dA (vA h0 z0) 8 False Q 0 0 h2 z0 [] 200 [] (j h2)) ?_ (fun K3 HK3 => ?_)
  · intro h2
    exact v_vret C dM_splays_200 (by rw [hQ])
  · refine lpG_ind (bot := (fun _ _ => none)) (B := LM_splays_9 a0 p1 K3) (fun (r : Hp → Int32 → Option Hp) => ∀ (h4 : Hp), ∀ (x5 : Int32), vO p l e (vR 1 0 0) s m args below meth c D dA (vA h0 z0) 8 False Q 0 0 h4 z0 [(0, .ref a0), (1, .int p1), (3, .int x5)] 9 [] (r h4 x5)) ?_ ?_ fu h0 ((x1 - 1) + p2)
    · intro h4 x5
      exact v_none
    · intro rec6 Hrec6 h4 x5
      unfold LM_splays_9
      refine v_aload_n C dM_splays_9 rfl 0 rfl ?_
      refine v_getR C v_cl5 (by decide) in_5 rfl w_620 dM_splays_10 (fun a7 => ?_)
      refine v_sipush (v := 129) C dM_splays_13 (by decide) ?_
      refine v_iload_n C dM_splays_16 rfl 1 rfl ?_
      refine v_imul C dM_splays_17 ?_
      refine v_iload_n C dM_splays_18 rfl 2 rfl ?_
      refine v_iadd C dM_splays_19 ?_
      refine v_iald C rfl dM_splays_20 (fun x8 => ?_)
      refine v_iconst (v := (-1)) C dM_splays_21 (by decide) ?_
      refine v_icmp_eq (tgt := 200) C dM_splays_22 (by decide) ?_ ?_
      · refine v_lv (lv' := []) [] rfl ?_
        exact HK3 h4
      · refine v_aload_n C dM_splays_25 rfl 0 rfl ?_
        refine v_getR C v_cl5 (by decide) in_5 rfl w_620 dM_splays_26 (fun a9 => ?_)
        refine v_sipush (v := 129) C dM_splays_29 (by decide) ?_
        refine v_iload_n C dM_splays_32 rfl 1 rfl ?_
        refine v_imul C dM_splays_33 ?_
        refine v_aload_n C dM_splays_34 rfl 0 rfl ?_
        refine v_getR C v_cl5 (by decide) in_5 rfl w_620 dM_splays_35 (fun a10 => ?_)
        refine v_sipush (v := 129) C dM_splays_38 (by decide) ?_
        refine v_iload_n C dM_splays_41 rfl 1 rfl ?_
        refine v_imul C dM_splays_42 ?_
        refine v_iload_n C dM_splays_43 rfl 2 rfl ?_
        refine v_iadd C dM_splays_44 ?_
        refine v_iald C rfl dM_splays_45 (fun x11 => ?_)
        refine v_iadd C dM_splays_46 ?_
        refine v_iald C rfl dM_splays_47 (fun x12 => ?_)
        refine v_iconst (v := (-1)) C dM_splays_48 (by decide) ?_
        refine v_icmp_eq (tgt := 200) C dM_splays_49 (by decide) ?_ ?_
        · refine v_lv (lv' := []) [] rfl ?_
          exact HK3 h4
        · refine v_aload_n C dM_splays_52 rfl 0 rfl ?_
          refine v_getR C v_cl5 (by decide) in_5 rfl w_620 dM_splays_53 (fun a13 => ?_)
          refine v_sipush (v := 129) C dM_splays_56 (by decide) ?_
          refine v_iload_n C dM_splays_59 rfl 1 rfl ?_
          refine v_imul C dM_splays_60 ?_
          refine v_iload_n C dM_splays_61 rfl 2 rfl ?_
          refine v_iadd C dM_splays_62 ?_
          refine v_iald C rfl dM_splays_63 (fun x14 => ?_)
          refine v_istore (lv' := [(0, .ref a0), (1, .int p1), (3, .int x5), (4, .int x14)]) C dM_splays_64 (by decide) [1, 2, 3, 0] rfl ?_
          refine v_aload_n C dM_splays_66 rfl 0 rfl ?_
          refine v_getR C v_cl5 (by decide) in_5 rfl w_620 dM_splays_67 (fun a15 => ?_)
          refine v_sipush (v := 129) C dM_splays_70 (by decide) ?_
          refine v_iload_n C dM_splays_73 rfl 1 rfl ?_
          refine v_imul C dM_splays_74 ?_
          refine v_iload C dM_splays_75 3 rfl ?_
          refine v_iadd C dM_splays_77 ?_
          refine v_iald C rfl dM_splays_78 (fun x16 => ?_)
          refine v_istore (lv' := [(0, .ref a0), (1, .int p1), (3, .int x5), (4, .int x14), (5, .int x16)]) C dM_splays_79 (by decide) [1, 2, 3, 4, 0] rfl ?_
          refine v_aload_n C dM_splays_81 rfl 0 rfl ?_
          refine v_iload_n C dM_splays_82 rfl 1 rfl ?_
          refine v_iload C dM_splays_83 4 rfl ?_
          refine v_aload_n C dM_splays_85 rfl 0 rfl ?_
          refine v_getR C v_cl5 (by decide) in_5 rfl w_621 dM_splays_86 (fun a17 => ?_)
          refine v_sipush (v := 129) C dM_splays_89 (by decide) ?_
          refine v_iload_n C dM_splays_92 rfl 1 rfl ?_
          refine v_imul C dM_splays_93 ?_
          refine v_iload C dM_splays_94 3 rfl ?_
          refine v_iadd C dM_splays_96 ?_
          refine v_zald C rfl dM_splays_97 (fun x18 => ?_)
          refine v_jn (fun (j : Int32 → Int32 → Int32 → Nat → Option Hp) => ∀ (y19 : Int32), ∀ (y20 : Int32), ∀ (y21 : Int32), ∀ (b22 : Nat), vO p l e (vR 1 0 0) s m args below meth c D dA (vA h0 z0) 8 False Q 0 0 h4 z0 [(0, .ref a0), (1, .int p1), (3, .int x5), (4, .int x14), (5, .int x16)] 106 [.int y19, .int y20, .int y21, .ref b22] (j y19 y20 y21 b22)) ?_ (fun j23 Hj23 => ?_)
          · intro y19 y20 y21 b22
            refine v_gd fun hO24 => ?_
            refine v_bind fun r25 hr25 => ?_
            refine v_callV0 (N := 3) (As := [.int y21, .int y20, .int y19]) (st := []) C (fun _ => trivial) (mM_child l h4 z0 b22 y21 y20 y19 r25 hr25) rfl w_767 w_53 (by decide +kernel) ⟨Nat.le_of_ble_eq_true rfl, Nat.le_of_ble_eq_true rfl⟩ rfl rfl (Nat.le_of_ble_eq_true rfl) ⟨Nat.zero_le _, Nat.zero_le _⟩ w_764 w_766 w_39 v_cl5 rfl hO24 dM_splays_106 ?_
            refine v_istore (lv' := [(0, .ref a0), (1, .int p1), (3, .int x5), (4, .int x14), (5, .int x16), (6, .int r25)]) C dM_splays_109 (by decide) [1, 2, 3, 4, 5, 0] rfl ?_
            refine v_aload_n C dM_splays_111 rfl 0 rfl ?_
            refine v_getR C v_cl5 (by decide) in_5 rfl w_621 dM_splays_112 (fun a26 => ?_)
            refine v_sipush (v := 129) C dM_splays_115 (by decide) ?_
            refine v_iload_n C dM_splays_118 rfl 1 rfl ?_
            refine v_imul C dM_splays_119 ?_
            refine v_iload_n C dM_splays_120 rfl 2 rfl ?_
            refine v_iadd C dM_splays_121 ?_
            refine v_zald C rfl dM_splays_122 (fun x27 => ?_)
            refine v_istore (lv' := [(0, .ref a0), (1, .int p1), (3, .int x5), (4, .int x14), (5, .int x16), (6, .int r25), (7, .int x27)]) C dM_splays_123 (by decide) [1, 2, 3, 4, 5, 6, 0] rfl ?_
            refine v_aload_n C dM_splays_125 rfl 0 rfl ?_
            refine v_getR C v_cl5 (by decide) in_5 rfl w_620 dM_splays_126 (fun a28 => ?_)
            refine v_sipush (v := 129) C dM_splays_129 (by decide) ?_
            refine v_iload_n C dM_splays_132 rfl 1 rfl ?_
            refine v_imul C dM_splays_133 ?_
            refine v_iload_n C dM_splays_134 rfl 2 rfl ?_
            refine v_iadd C dM_splays_135 ?_
            refine v_iload C dM_splays_136 4 rfl ?_
            refine v_iast C rfl dM_splays_138 (fun h29 => ?_)
            refine v_aload_n C dM_splays_139 rfl 0 rfl ?_
            refine v_getR C v_cl5 (by decide) in_5 rfl w_621 dM_splays_140 (fun a30 => ?_)
            refine v_sipush (v := 129) C dM_splays_143 (by decide) ?_
            refine v_iload_n C dM_splays_146 rfl 1 rfl ?_
            refine v_imul C dM_splays_147 ?_
            refine v_iload_n C dM_splays_148 rfl 2 rfl ?_
            refine v_iadd C dM_splays_149 ?_
            refine v_aload_n C dM_splays_150 rfl 0 rfl ?_
            refine v_getR C v_cl5 (by decide) in_5 rfl w_621 dM_splays_151 (fun a31 => ?_)
            refine v_sipush (v := 129) C dM_splays_154 (by decide) ?_
            refine v_iload_n C dM_splays_157 rfl 1 rfl ?_
            refine v_imul C dM_splays_158 ?_
            refine v_iload C dM_splays_159 5 rfl ?_
            refine v_iadd C dM_splays_161 ?_
            refine v_zald C rfl dM_splays_162 (fun x32 => ?_)
            refine v_zast C rfl dM_splays_163 (fun h33 => ?_)
            refine v_aload_n C dM_splays_164 rfl 0 rfl ?_
            refine v_getR C v_cl5 (by decide) in_5 rfl w_620 dM_splays_165 (fun a34 => ?_)
            refine v_sipush (v := 129) C dM_splays_168 (by decide) ?_
            refine v_iload_n C dM_splays_171 rfl 1 rfl ?_
            refine v_imul C dM_splays_172 ?_
            refine v_iload C dM_splays_173 5 rfl ?_
            refine v_iadd C dM_splays_175 ?_
            refine v_iload C dM_splays_176 3 rfl ?_
            refine v_iast C rfl dM_splays_178 (fun h35 => ?_)
            refine v_aload_n C dM_splays_179 rfl 0 rfl ?_
            refine v_getR C v_cl5 (by decide) in_5 rfl w_621 dM_splays_180 (fun a36 => ?_)
            refine v_sipush (v := 129) C dM_splays_183 (by decide) ?_
            refine v_iload_n C dM_splays_186 rfl 1 rfl ?_
            refine v_imul C dM_splays_187 ?_
            refine v_iload C dM_splays_188 5 rfl ?_
            refine v_iadd C dM_splays_190 ?_
            refine v_iload C dM_splays_191 6 rfl ?_
            refine v_zast C rfl dM_splays_193 (fun h37 => ?_)
            refine v_iload C dM_splays_194 4 rfl ?_
            refine v_istore_n (lv' := [(0, .ref a0), (1, .int p1), (3, .int x16)]) C dM_splays_196 rfl (by decide) [1, 2, 0] rfl ?_
            refine v_goto (tgt := 9) C dM_splays_197 (by decide) ?_
            exact Hrec6 h37 x16
          · refine v_if_ne (tgt := 105) C dM_splays_98 (by decide) ?_ ?_
            · refine v_iconst (v := 0) C dM_splays_105 (by decide) ?_
              exact Hj23 0 x16 p1 a0
            · refine v_iconst (v := 1) C dM_splays_101 (by decide) ?_
              refine v_goto (tgt := 106) C dM_splays_102 (by decide) ?_
              exact Hj23 1 x16 p1 a0
theorem dM_steps_0 : decode prog_7_method_17_code 0 = .ok (.aload_n 0, 1) := by decide +kernel
theorem dM_steps_1 : decode prog_7_method_17_code 1 = .ok (.getfield 7, 3) := by decide +kernel
theorem dM_steps_4 : decode prog_7_method_17_code 4 = .ok (.iload_n 1, 1) := by decide +kernel
theorem dM_steps_5 : decode prog_7_method_17_code 5 = .ok (.iaload, 1) := by decide +kernel
theorem dM_steps_6 : decode prog_7_method_17_code 6 = .ok (.ifCond .ne 12, 3) := by decide +kernel
theorem dM_steps_9 : decode prog_7_method_17_code 9 = .ok (.aload_n 0, 1) := by decide +kernel
theorem dM_steps_10 : decode prog_7_method_17_code 10 = .ok (.iload_n 1, 1) := by decide +kernel
theorem dM_steps_11 : decode prog_7_method_17_code 11 = .ok (.iload_n 2, 1) := by decide +kernel
theorem dM_steps_12 : decode prog_7_method_17_code 12 = .ok (.invokevirtual 108, 3) := by decide +kernel
theorem dM_steps_15 : decode prog_7_method_17_code 15 = .ok (.goto 9, 3) := by decide +kernel
theorem dM_steps_18 : decode prog_7_method_17_code 18 = .ok (.aload_n 0, 1) := by decide +kernel
theorem dM_steps_19 : decode prog_7_method_17_code 19 = .ok (.iload_n 1, 1) := by decide +kernel
theorem dM_steps_20 : decode prog_7_method_17_code 20 = .ok (.iload_n 2, 1) := by decide +kernel
theorem dM_steps_21 : decode prog_7_method_17_code 21 = .ok (.invokevirtual 111, 3) := by decide +kernel
theorem dM_steps_24 : decode prog_7_method_17_code 24 = .ok (.return_, 1) := by decide +kernel
def FM_steps (h0 : Hp) (a0 : Nat) (p1 : Int32) (p2 : Int32) : Option Hp :=
  gR h0 a0 5 3 (fun a1 =>
  ldI h0 a1 0 p1 (fun x2 =>
  jn (fun (h3 : Hp) =>
  some h3)
  (fun (j4 : Hp → Option Hp) =>
  if x2 = 0 then
    (gd (isO h0 a0 5 = true) ((FM_counts h0 a0 p1 p2).bind (fun r8 =>
    j4 r8)))
  else
    (gd (isO h0 a0 5 = true) ((FM_splays h0 a0 p1 p2).bind (fun r6 =>
    j4 r6))))))
set_option maxRecDepth 100000 in
set_option maxHeartbeats 4000000 in
theorem mM_steps (l : Launch) (h0 : Hp) (z0 : Nat) (a0 : Nat) (p1 : Int32) (p2 : Int32) (r : Hp) (hr : FM_steps h0 a0 p1 p2 = some r) : vM False l yM_steps (Cond.code yM_steps prog_7_method_17_code 3 none :: gW) 3 [.ref a0, .int p1, .int p2] h0 z0 r z0 none 0 0 := by
  refine vM.of (by decide) rfl (Nat.le_of_ble_eq_true rfl) ?_
  intro p e s m args below meth c D dA C hin2
  refine (?_ : vO p l e (vR 3 0 0) s m args below meth c D dA (vA h0 z0) 3 False (fun r : Hp => MQ below (vQc False h0 z0 D dA r z0 none) args s 0 0 (vAr False h0 z0)) 0 0 h0 z0 [(0, .ref a0), (1, .int p1), (2, .int p2)] 0 [] (FM_steps h0 a0 p1 p2)) r hr
  obtain ⟨Q, hQ⟩ : ∃ Q : Hp → State → Prop, Q = (fun r : Hp => MQ below (vQc False h0 z0 D dA r z0 none) args s 0 0 (vAr False h0 z0)) := ⟨_, rfl⟩
  rw [← hQ]
  unfold FM_steps
  refine v_aload_n C dM_steps_0 rfl 0 rfl ?_
  refine v_getR C v_cl5 (by decide) in_5 rfl w_612 dM_steps_1 (fun a1 => ?_)
  refine v_iload_n C dM_steps_4 rfl 1 rfl ?_
  refine v_iald C rfl dM_steps_5 (fun x2 => ?_)
  refine v_jn (fun (j : Hp → Option Hp) => ∀ (h3 : Hp), vO p l e (vR 3 0 0) s m args below meth c D dA (vA h0 z0) 3 False Q 0 0 h3 z0 [] 24 [] (j h3)) ?_ (fun j4 Hj4 => ?_)
  · intro h3
    exact v_vret C dM_steps_24 (by rw [hQ])
  · refine v_if_ne (tgt := 18) C dM_steps_6 (by decide) ?_ ?_
    · refine v_aload_n C dM_steps_18 rfl 0 rfl ?_
      refine v_iload_n C dM_steps_19 rfl 1 rfl ?_
      refine v_iload_n C dM_steps_20 rfl 2 rfl ?_
      refine v_gd fun hO5 => ?_
      refine v_bind fun r6 hr6 => ?_
      refine v_callV0 (N := 2) (As := [.int p1, .int p2]) (st := []) C (fun f => f.elim) (mM_splays l h0 z0 a0 p1 p2 r6 hr6) rfl w_763 w_53 (by decide +kernel) ⟨Nat.le_of_ble_eq_true rfl, Nat.le_of_ble_eq_true rfl⟩ rfl rfl (Nat.le_of_ble_eq_true rfl) ⟨Nat.zero_le _, Nat.zero_le _⟩ w_760 w_762 w_38 v_cl5 rfl hO5 dM_steps_21 ?_
      refine v_lv (lv' := []) [] rfl ?_
      exact Hj4 r6
    · refine v_aload_n C dM_steps_9 rfl 0 rfl ?_
      refine v_iload_n C dM_steps_10 rfl 1 rfl ?_
      refine v_iload_n C dM_steps_11 rfl 2 rfl ?_
      refine v_gd fun hO7 => ?_
      refine v_bind fun r8 hr8 => ?_
      refine v_callV0 (N := 2) (As := [.int p1, .int p2]) (st := []) C (fun f => f.elim) (mM_counts l h0 z0 a0 p1 p2 r8 hr8) rfl w_743 w_53 (by decide +kernel) ⟨Nat.le_of_ble_eq_true rfl, Nat.le_of_ble_eq_true rfl⟩ rfl rfl (Nat.le_of_ble_eq_true rfl) ⟨Nat.zero_le _, Nat.zero_le _⟩ w_740 w_742 w_33 v_cl5 rfl hO7 dM_steps_12 ?_
      refine v_goto (tgt := 24) C dM_steps_15 (by decide) ?_
      refine v_lv (lv' := []) [] rfl ?_
      exact Hj4 r8
theorem dM_isKnown_0 : decode prog_7_method_18_code 0 = .ok (.aload_n 0, 1) := by decide +kernel
theorem dM_isKnown_1 : decode prog_7_method_18_code 1 = .ok (.getfield 7, 3) := by decide +kernel
theorem dM_isKnown_4 : decode prog_7_method_18_code 4 = .ok (.iload_n 1, 1) := by decide +kernel
theorem dM_isKnown_5 : decode prog_7_method_18_code 5 = .ok (.iaload, 1) := by decide +kernel
theorem dM_isKnown_6 : decode prog_7_method_18_code 6 = .ok (.iconst 1, 1) := by decide +kernel
theorem dM_isKnown_7 : decode prog_7_method_18_code 7 = .ok (.if_icmp .eq 13, 3) := by decide +kernel
theorem dM_isKnown_10 : decode prog_7_method_18_code 10 = .ok (.aload_n 0, 1) := by decide +kernel
theorem dM_isKnown_11 : decode prog_7_method_18_code 11 = .ok (.iload_n 1, 1) := by decide +kernel
theorem dM_isKnown_12 : decode prog_7_method_18_code 12 = .ok (.iload_n 2, 1) := by decide +kernel
theorem dM_isKnown_13 : decode prog_7_method_18_code 13 = .ok (.invokevirtual 84, 3) := by decide +kernel
theorem dM_isKnown_16 : decode prog_7_method_18_code 16 = .ok (.iconst (-1), 1) := by decide +kernel
theorem dM_isKnown_17 : decode prog_7_method_18_code 17 = .ok (.if_icmp .eq 7, 3) := by decide +kernel
theorem dM_isKnown_20 : decode prog_7_method_18_code 20 = .ok (.iconst 1, 1) := by decide +kernel
theorem dM_isKnown_21 : decode prog_7_method_18_code 21 = .ok (.goto 4, 3) := by decide +kernel
theorem dM_isKnown_24 : decode prog_7_method_18_code 24 = .ok (.iconst 0, 1) := by decide +kernel
theorem dM_isKnown_25 : decode prog_7_method_18_code 25 = .ok (.ireturn, 1) := by decide +kernel
def FM_isKnown (h0 : Hp) (a0 : Nat) (p1 : Int32) (p2 : Int32) : Option Int32 :=
  gR h0 a0 5 3 (fun a1 =>
  ldI h0 a1 0 p1 (fun x2 =>
  jn (fun (y3 : Int32) =>
  gd (y3 = 0 ∨ y3 = 1) (some y3))
  (fun (j4 : Int32 → Option Int32) =>
  jn (j4 1)
  (fun (j5 : Option Int32) =>
  if x2 = 1 then
    (j5)
  else
    (gd (isO h0 a0 5 = true) ((FM_nodeOf h0 a0 p1 p2).bind (fun r7 =>
    if r7 = (-1) then
      (j4 0)
    else
      (j5))))))))
set_option maxRecDepth 100000 in
set_option maxHeartbeats 4000000 in
theorem mM_isKnown (l : Launch) (h0 : Hp) (z0 : Nat) (a0 : Nat) (p1 : Int32) (p2 : Int32) (r : Int32) (hr : FM_isKnown h0 a0 p1 p2 = some r) : vM True l yM_isKnown (Cond.code yM_isKnown prog_7_method_18_code 3 (some (.boolean)) :: gW) 1 [.ref a0, .int p1, .int p2] h0 z0 h0 z0 (some (.int r)) 0 0 := by
  refine vM.of (by decide) rfl (Nat.le_of_ble_eq_true rfl) ?_
  intro p e s m args below meth c D dA C hin2
  refine (?_ : vO p l e (vR 1 0 0) s m args below meth c D dA (vA h0 z0) 3 True (fun r : Int32 => MQ below (vQc True h0 z0 D dA h0 z0 (some (.int r))) args s 0 0 (vAr True h0 z0)) 0 0 h0 z0 [(0, .ref a0), (1, .int p1), (2, .int p2)] 0 [] (FM_isKnown h0 a0 p1 p2)) r hr
  obtain ⟨Q, hQ⟩ : ∃ Q : Int32 → State → Prop, Q = (fun r : Int32 => MQ below (vQc True h0 z0 D dA h0 z0 (some (.int r))) args s 0 0 (vAr True h0 z0)) := ⟨_, rfl⟩
  rw [← hQ]
  unfold FM_isKnown
  refine v_aload_n C dM_isKnown_0 rfl 0 rfl ?_
  refine v_getR C v_cl5 (by decide) in_5 rfl w_612 dM_isKnown_1 (fun a1 => ?_)
  refine v_iload_n C dM_isKnown_4 rfl 1 rfl ?_
  refine v_iald C rfl dM_isKnown_5 (fun x2 => ?_)
  refine v_iconst (v := 1) C dM_isKnown_6 (by decide) ?_
  refine v_jn (fun (j : Int32 → Option Int32) => ∀ (y3 : Int32), vO p l e (vR 1 0 0) s m args below meth c D dA (vA h0 z0) 3 True Q 0 0 h0 z0 [] 25 [.int y3] (j y3)) ?_ (fun j4 Hj4 => ?_)
  · intro y3
    exact v_zret C dM_isKnown_25 (by rw [hQ])
  · refine v_jn (fun (j : Option Int32) => vO p l e (vR 1 0 0) s m args below meth c D dA (vA h0 z0) 3 True Q 0 0 h0 z0 [] 20 [] j) ?_ (fun j5 Hj5 => ?_)
    · refine v_iconst (v := 1) C dM_isKnown_20 (by decide) ?_
      refine v_goto (tgt := 25) C dM_isKnown_21 (by decide) ?_
      exact Hj4 1
    · refine v_icmp_eq (tgt := 20) C dM_isKnown_7 (by decide) ?_ ?_
      · refine v_lv (lv' := []) [] rfl ?_
        exact Hj5
      · refine v_aload_n C dM_isKnown_10 rfl 0 rfl ?_
        refine v_iload_n C dM_isKnown_11 rfl 1 rfl ?_
        refine v_iload_n C dM_isKnown_12 rfl 2 rfl ?_
        refine v_gd fun hO6 => ?_
        refine v_bind fun r7 hr7 => ?_
        refine v_callV0 (N := 2) (As := [.int p1, .int p2]) (st := []) C (fun _ => trivial) (mM_nodeOf l h0 z0 a0 p1 p2 r7 hr7) rfl w_723 w_53 (by decide +kernel) ⟨Nat.le_of_ble_eq_true rfl, Nat.le_of_ble_eq_true rfl⟩ rfl rfl (Nat.le_of_ble_eq_true rfl) ⟨Nat.zero_le _, Nat.zero_le _⟩ w_720 w_722 w_28 v_cl5 rfl hO6 dM_isKnown_13 ?_
        refine v_iconst (v := (-1)) C dM_isKnown_16 (by decide) ?_
        refine v_icmp_eq (tgt := 24) C dM_isKnown_17 (by decide) ?_ ?_
        · refine v_iconst (v := 0) C dM_isKnown_24 (by decide) ?_
          refine v_lv (lv' := []) [] rfl ?_
          exact Hj4 0
        · refine v_lv (lv' := []) [] rfl ?_
          exact Hj5
