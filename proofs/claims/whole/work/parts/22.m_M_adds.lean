theorem dM_adds_0 : decode prog_7_method_19_code 0 = .ok (.aload_n 0, 1) := by decide +kernel
theorem dM_adds_1 : decode prog_7_method_19_code 1 = .ok (.getfield 53, 3) := by decide +kernel
theorem dM_adds_4 : decode prog_7_method_19_code 4 = .ok (.aload_n 0, 1) := by decide +kernel
theorem dM_adds_5 : decode prog_7_method_19_code 5 = .ok (.getfield 114, 3) := by decide +kernel
theorem dM_adds_8 : decode prog_7_method_19_code 8 = .ok (.iload_n 1, 1) := by decide +kernel
theorem dM_adds_9 : decode prog_7_method_19_code 9 = .ok (.bastore, 1) := by decide +kernel
theorem dM_adds_10 : decode prog_7_method_19_code 10 = .ok (.aload_n 0, 1) := by decide +kernel
theorem dM_adds_11 : decode prog_7_method_19_code 11 = .ok (.dup, 1) := by decide +kernel
theorem dM_adds_12 : decode prog_7_method_19_code 12 = .ok (.getfield 114, 3) := by decide +kernel
theorem dM_adds_15 : decode prog_7_method_19_code 15 = .ok (.iconst 1, 1) := by decide +kernel
theorem dM_adds_16 : decode prog_7_method_19_code 16 = .ok (.iadd, 1) := by decide +kernel
theorem dM_adds_17 : decode prog_7_method_19_code 17 = .ok (.putfield 114, 3) := by decide +kernel
theorem dM_adds_20 : decode prog_7_method_19_code 20 = .ok (.return_, 1) := by decide +kernel
def FM_adds (h0 : Hp) (a0 : Nat) (p1 : Int32) : Option Hp :=
  gR h0 a0 5 24 (fun a1 =>
  gI h0 a0 5 25 (fun x2 =>
  stI h0 a1 1 x2 (vp_nar .boolean p1) (fun h3 =>
  gI h3 a0 5 25 (fun x4 =>
  pF h3 a0 5 25 (.int (x4 + 1)) (fun h5 =>
  some h5)))))
set_option maxRecDepth 100000 in
set_option maxHeartbeats 4000000 in
theorem mM_adds (l : Launch) (h0 : Hp) (z0 : Nat) (a0 : Nat) (p1 : Int32) (r : Hp) (hr : FM_adds h0 a0 p1 = some r) : vM False l yM_adds (Cond.code yM_adds prog_7_method_19_code 2 none :: gW) 0 [.ref a0, .int p1] h0 z0 r z0 none 0 0 := by
  refine vM.of (by decide) rfl (Nat.le_of_ble_eq_true rfl) ?_
  intro p e s m args below meth c D dA C hin2
  refine (?_ : vO p l e (vR 0 0 0) s m args below meth c D dA (vA h0 z0) 2 False (fun r : Hp => MQ below (vQc False h0 z0 D dA r z0 none) args s 0 0 (vAr False h0 z0)) 0 0 h0 z0 [(0, .ref a0), (1, .int p1)] 0 [] (FM_adds h0 a0 p1)) r hr
  obtain ⟨Q, hQ⟩ : ∃ Q : Hp → State → Prop, Q = (fun r : Hp => MQ below (vQc False h0 z0 D dA r z0 none) args s 0 0 (vAr False h0 z0)) := ⟨_, rfl⟩
  rw [← hQ]
  unfold FM_adds
  refine v_aload_n C dM_adds_0 rfl 0 rfl ?_
  refine v_getR C v_cl5 (by decide) in_5 rfl w_633 dM_adds_1 (fun a1 => ?_)
  refine v_aload_n C dM_adds_4 rfl 0 rfl ?_
  refine v_getI C v_cl5 (by decide) in_5 rfl w_634 dM_adds_5 (fun x2 => ?_)
  refine v_iload_n C dM_adds_8 rfl 1 rfl ?_
  refine v_zast C rfl dM_adds_9 (fun h3 => ?_)
  refine v_aload_n C dM_adds_10 rfl 0 rfl ?_
  refine v_dup C dM_adds_11 rfl ?_
  refine v_getI C v_cl5 (by decide) in_5 rfl w_634 dM_adds_12 (fun x4 => ?_)
  refine v_iconst (v := 1) C dM_adds_15 (by decide) ?_
  refine v_iadd C dM_adds_16 ?_
  refine v_put C v_cl5 (by decide) in_5 ty_5 ty_5_ok nm_5 rfl w_634 rfl (ty := .int) (by decide +kernel) rfl rfl dM_adds_17 (fun h5 => ?_)
  exact v_vret C dM_adds_20 (by rw [hQ])
theorem dM_wayUp_0 : decode prog_7_method_20_code 0 = .ok (.iload_n 2, 1) := by decide +kernel
theorem dM_wayUp_1 : decode prog_7_method_20_code 1 = .ok (.istore_n 3, 1) := by decide +kernel
theorem dM_wayUp_2 : decode prog_7_method_20_code 2 = .ok (.iload_n 3, 1) := by decide +kernel
theorem dM_wayUp_3 : decode prog_7_method_20_code 3 = .ok (.ifCond .eq 28, 3) := by decide +kernel
theorem dM_wayUp_6 : decode prog_7_method_20_code 6 = .ok (.aload_n 0, 1) := by decide +kernel
theorem dM_wayUp_7 : decode prog_7_method_20_code 7 = .ok (.iload_n 3, 1) := by decide +kernel
theorem dM_wayUp_8 : decode prog_7_method_20_code 8 = .ok (.iconst 2, 1) := by decide +kernel
theorem dM_wayUp_9 : decode prog_7_method_20_code 9 = .ok (.irem, 1) := by decide +kernel
theorem dM_wayUp_10 : decode prog_7_method_20_code 10 = .ok (.ifCond .ne 7, 3) := by decide +kernel
theorem dM_wayUp_13 : decode prog_7_method_20_code 13 = .ok (.iconst 1, 1) := by decide +kernel
theorem dM_wayUp_14 : decode prog_7_method_20_code 14 = .ok (.goto 4, 3) := by decide +kernel
theorem dM_wayUp_17 : decode prog_7_method_20_code 17 = .ok (.iconst 0, 1) := by decide +kernel
theorem dM_wayUp_18 : decode prog_7_method_20_code 18 = .ok (.invokevirtual 117, 3) := by decide +kernel
theorem dM_wayUp_21 : decode prog_7_method_20_code 21 = .ok (.aload_n 0, 1) := by decide +kernel
theorem dM_wayUp_22 : decode prog_7_method_20_code 22 = .ok (.iload_n 1, 1) := by decide +kernel
theorem dM_wayUp_23 : decode prog_7_method_20_code 23 = .ok (.iload_n 3, 1) := by decide +kernel
theorem dM_wayUp_24 : decode prog_7_method_20_code 24 = .ok (.invokevirtual 91, 3) := by decide +kernel
theorem dM_wayUp_27 : decode prog_7_method_20_code 27 = .ok (.istore_n 3, 1) := by decide +kernel
theorem dM_wayUp_28 : decode prog_7_method_20_code 28 = .ok (.goto (-26), 3) := by decide +kernel
theorem dM_wayUp_31 : decode prog_7_method_20_code 31 = .ok (.return_, 1) := by decide +kernel
def LM_wayUp_2 (a0 : Nat) (p1 : Int32) (K2 : Hp → Option Hp) (rec5 : Hp → Int32 → Option Hp) (h3 : Hp) (x4 : Int32) : Option Hp :=
  if x4 = 0 then
    (K2 h3)
  else
    (gd (¬ 2 = 0) (
    jn (fun (y6 : Int32) (b7 : Nat) =>
    gd (isO h3 b7 5 = true) ((FM_adds h3 b7 y6).bind (fun r10 =>
    gd (isO r10 a0 5 = true) ((FM_above r10 a0 p1 x4).bind (fun r12 =>
    rec5 r10 r12)))))
    (fun (j8 : Int32 → Nat → Option Hp) =>
    if (x4 - x4 / 2 * 2) = 0 then
      (j8 1 a0)
    else
      (j8 0 a0))))
def FM_wayUp (h0 : Hp) (a0 : Nat) (p1 : Int32) (p2 : Int32) : Option Hp :=
  jn (fun (h1 : Hp) =>
  some h1)
  (fun (K2 : Hp → Option Hp) =>
  lpG (fun _ _ => none) fu (LM_wayUp_2 a0 p1 K2) h0 p2)
set_option maxRecDepth 100000 in
set_option maxHeartbeats 4000000 in
theorem mM_wayUp (l : Launch) (h0 : Hp) (z0 : Nat) (a0 : Nat) (p1 : Int32) (p2 : Int32) (r : Hp) (hr : FM_wayUp h0 a0 p1 p2 = some r) : vM False l yM_wayUp (Cond.code yM_wayUp prog_7_method_20_code 4 none :: gW) 2 [.ref a0, .int p1, .int p2] h0 z0 r z0 none 0 0 := by
  refine vM.of (by decide) rfl (Nat.le_of_ble_eq_true rfl) ?_
  intro p e s m args below meth c D dA C hin2
  refine (?_ : vO p l e (vR 2 0 0) s m args below meth c D dA (vA h0 z0) 4 False (fun r : Hp => MQ below (vQc False h0 z0 D dA r z0 none) args s 0 0 (vAr False h0 z0)) 0 0 h0 z0 [(0, .ref a0), (1, .int p1), (2, .int p2)] 0 [] (FM_wayUp h0 a0 p1 p2)) r hr
  obtain ⟨Q, hQ⟩ : ∃ Q : Hp → State → Prop, Q = (fun r : Hp => MQ below (vQc False h0 z0 D dA r z0 none) args s 0 0 (vAr False h0 z0)) := ⟨_, rfl⟩
  rw [← hQ]
  unfold FM_wayUp
  refine v_iload_n C dM_wayUp_0 rfl 2 rfl ?_
  refine v_istore_n (lv' := [(0, .ref a0), (1, .int p1), (3, .int p2)]) C dM_wayUp_1 rfl (by decide) [1, 2, 0] rfl ?_
  refine v_jn (fun (j : Hp → Option Hp) => ∀ (h1 : Hp), vO p l e (vR 2 0 0) s m args below meth c D dA (vA h0 z0) 4 False Q 0 0 h1 z0 [] 31 [] (j h1)) ?_ (fun K2 HK2 => ?_)
  · intro h1
    exact v_vret C dM_wayUp_31 (by rw [hQ])
  · refine lpG_ind (bot := (fun _ _ => none)) (B := LM_wayUp_2 a0 p1 K2) (fun (r : Hp → Int32 → Option Hp) => ∀ (h3 : Hp), ∀ (x4 : Int32), vO p l e (vR 2 0 0) s m args below meth c D dA (vA h0 z0) 4 False Q 0 0 h3 z0 [(0, .ref a0), (1, .int p1), (3, .int x4)] 2 [] (r h3 x4)) ?_ ?_ fu h0 p2
    · intro h3 x4
      exact v_none
    · intro rec5 Hrec5 h3 x4
      unfold LM_wayUp_2
      refine v_iload_n C dM_wayUp_2 rfl 2 rfl ?_
      refine v_if_eq (tgt := 31) C dM_wayUp_3 (by decide) ?_ ?_
      · refine v_lv (lv' := []) [] rfl ?_
        exact HK2 h3
      · refine v_aload_n C dM_wayUp_6 rfl 0 rfl ?_
        refine v_iload_n C dM_wayUp_7 rfl 2 rfl ?_
        refine v_iconst (v := 2) C dM_wayUp_8 (by decide) ?_
        refine v_irem C dM_wayUp_9 ?_
        refine v_jn (fun (j : Int32 → Nat → Option Hp) => ∀ (y6 : Int32), ∀ (b7 : Nat), vO p l e (vR 2 0 0) s m args below meth c D dA (vA h0 z0) 4 False Q 0 0 h3 z0 [(0, .ref a0), (1, .int p1), (3, .int x4)] 18 [.int y6, .ref b7] (j y6 b7)) ?_ (fun j8 Hj8 => ?_)
        · intro y6 b7
          refine v_gd fun hO9 => ?_
          refine v_bind fun r10 hr10 => ?_
          refine v_callV0 (N := 1) (As := [.int y6]) (st := []) C (fun f => f.elim) (mM_adds l h3 z0 b7 y6 r10 hr10) rfl w_715 w_53 (by decide +kernel) ⟨Nat.le_of_ble_eq_true rfl, Nat.le_of_ble_eq_true rfl⟩ rfl rfl (Nat.le_of_ble_eq_true rfl) ⟨Nat.zero_le _, Nat.zero_le _⟩ w_712 w_714 w_26 v_cl5 rfl hO9 dM_wayUp_18 ?_
          refine v_aload_n C dM_wayUp_21 rfl 0 rfl ?_
          refine v_iload_n C dM_wayUp_22 rfl 1 rfl ?_
          refine v_iload_n C dM_wayUp_23 rfl 2 rfl ?_
          refine v_gd fun hO11 => ?_
          refine v_bind fun r12 hr12 => ?_
          refine v_callV0 (N := 2) (As := [.int p1, .int x4]) (st := []) C (fun _ => trivial) (mM_above l r10 z0 a0 p1 x4 r12 hr12) rfl w_735 w_53 (by decide +kernel) ⟨Nat.le_of_ble_eq_true rfl, Nat.le_of_ble_eq_true rfl⟩ rfl rfl (Nat.le_of_ble_eq_true rfl) ⟨Nat.zero_le _, Nat.zero_le _⟩ w_732 w_734 w_31 v_cl5 rfl hO11 dM_wayUp_24 ?_
          refine v_istore_n (lv' := [(0, .ref a0), (1, .int p1), (3, .int r12)]) C dM_wayUp_27 rfl (by decide) [1, 2, 0] rfl ?_
          refine v_goto (tgt := 2) C dM_wayUp_28 (by decide) ?_
          exact Hrec5 r10 r12
        · refine v_if_ne (tgt := 17) C dM_wayUp_10 (by decide) ?_ ?_
          · refine v_iconst (v := 0) C dM_wayUp_17 (by decide) ?_
            exact Hj8 0 a0
          · refine v_iconst (v := 1) C dM_wayUp_13 (by decide) ?_
            refine v_goto (tgt := 18) C dM_wayUp_14 (by decide) ?_
            exact Hj8 1 a0
theorem dM_find_0 : decode prog_7_method_21_code 0 = .ok (.aload_n 0, 1) := by decide +kernel
theorem dM_find_1 : decode prog_7_method_21_code 1 = .ok (.iconst 0, 1) := by decide +kernel
theorem dM_find_2 : decode prog_7_method_21_code 2 = .ok (.putfield 114, 3) := by decide +kernel
theorem dM_find_5 : decode prog_7_method_21_code 5 = .ok (.aload_n 0, 1) := by decide +kernel
theorem dM_find_6 : decode prog_7_method_21_code 6 = .ok (.getfield 7, 3) := by decide +kernel
theorem dM_find_9 : decode prog_7_method_21_code 9 = .ok (.iload_n 1, 1) := by decide +kernel
theorem dM_find_10 : decode prog_7_method_21_code 10 = .ok (.iaload, 1) := by decide +kernel
theorem dM_find_11 : decode prog_7_method_21_code 11 = .ok (.iconst 1, 1) := by decide +kernel
theorem dM_find_12 : decode prog_7_method_21_code 12 = .ok (.if_icmp .ne 51, 3) := by decide +kernel
theorem dM_find_15 : decode prog_7_method_21_code 15 = .ok (.aload_n 0, 1) := by decide +kernel
theorem dM_find_16 : decode prog_7_method_21_code 16 = .ok (.getfield 56, 3) := by decide +kernel
theorem dM_find_19 : decode prog_7_method_21_code 19 = .ok (.iconst 1, 1) := by decide +kernel
theorem dM_find_20 : decode prog_7_method_21_code 20 = .ok (.isub, 1) := by decide +kernel
theorem dM_find_21 : decode prog_7_method_21_code 21 = .ok (.iload_n 2, 1) := by decide +kernel
theorem dM_find_22 : decode prog_7_method_21_code 22 = .ok (.iadd, 1) := by decide +kernel
theorem dM_find_23 : decode prog_7_method_21_code 23 = .ok (.istore_n 3, 1) := by decide +kernel
theorem dM_find_24 : decode prog_7_method_21_code 24 = .ok (.iload_n 3, 1) := by decide +kernel
theorem dM_find_25 : decode prog_7_method_21_code 25 = .ok (.ifCond .eq 35, 3) := by decide +kernel
theorem dM_find_28 : decode prog_7_method_21_code 28 = .ok (.aload_n 0, 1) := by decide +kernel
theorem dM_find_29 : decode prog_7_method_21_code 29 = .ok (.aload_n 0, 1) := by decide +kernel
theorem dM_find_30 : decode prog_7_method_21_code 30 = .ok (.getfield 38, 3) := by decide +kernel
theorem dM_find_33 : decode prog_7_method_21_code 33 = .ok (.sipush 129, 3) := by decide +kernel
theorem dM_find_36 : decode prog_7_method_21_code 36 = .ok (.iload_n 1, 1) := by decide +kernel
theorem dM_find_37 : decode prog_7_method_21_code 37 = .ok (.imul, 1) := by decide +kernel
theorem dM_find_38 : decode prog_7_method_21_code 38 = .ok (.iload_n 3, 1) := by decide +kernel
theorem dM_find_39 : decode prog_7_method_21_code 39 = .ok (.iadd, 1) := by decide +kernel
theorem dM_find_40 : decode prog_7_method_21_code 40 = .ok (.baload, 1) := by decide +kernel
theorem dM_find_41 : decode prog_7_method_21_code 41 = .ok (.invokevirtual 117, 3) := by decide +kernel
theorem dM_find_44 : decode prog_7_method_21_code 44 = .ok (.aload_n 0, 1) := by decide +kernel
theorem dM_find_45 : decode prog_7_method_21_code 45 = .ok (.getfield 35, 3) := by decide +kernel
theorem dM_find_48 : decode prog_7_method_21_code 48 = .ok (.sipush 129, 3) := by decide +kernel
theorem dM_find_51 : decode prog_7_method_21_code 51 = .ok (.iload_n 1, 1) := by decide +kernel
theorem dM_find_52 : decode prog_7_method_21_code 52 = .ok (.imul, 1) := by decide +kernel
theorem dM_find_53 : decode prog_7_method_21_code 53 = .ok (.iload_n 3, 1) := by decide +kernel
theorem dM_find_54 : decode prog_7_method_21_code 54 = .ok (.iadd, 1) := by decide +kernel
theorem dM_find_55 : decode prog_7_method_21_code 55 = .ok (.iaload, 1) := by decide +kernel
theorem dM_find_56 : decode prog_7_method_21_code 56 = .ok (.istore_n 3, 1) := by decide +kernel
theorem dM_find_57 : decode prog_7_method_21_code 57 = .ok (.goto (-33), 3) := by decide +kernel
theorem dM_find_60 : decode prog_7_method_21_code 60 = .ok (.goto 82, 3) := by decide +kernel
theorem dM_find_63 : decode prog_7_method_21_code 63 = .ok (.aload_n 0, 1) := by decide +kernel
theorem dM_find_64 : decode prog_7_method_21_code 64 = .ok (.iload_n 1, 1) := by decide +kernel
theorem dM_find_65 : decode prog_7_method_21_code 65 = .ok (.iload_n 2, 1) := by decide +kernel
theorem dM_find_66 : decode prog_7_method_21_code 66 = .ok (.invokevirtual 121, 3) := by decide +kernel
theorem dM_find_69 : decode prog_7_method_21_code 69 = .ok (.ifCond .eq 22, 3) := by decide +kernel
theorem dM_find_72 : decode prog_7_method_21_code 72 = .ok (.aload_n 0, 1) := by decide +kernel
theorem dM_find_73 : decode prog_7_method_21_code 73 = .ok (.iload_n 1, 1) := by decide +kernel
theorem dM_find_74 : decode prog_7_method_21_code 74 = .ok (.aload_n 0, 1) := by decide +kernel
theorem dM_find_75 : decode prog_7_method_21_code 75 = .ok (.iload_n 1, 1) := by decide +kernel
theorem dM_find_76 : decode prog_7_method_21_code 76 = .ok (.aload_n 0, 1) := by decide +kernel
theorem dM_find_77 : decode prog_7_method_21_code 77 = .ok (.iload_n 1, 1) := by decide +kernel
theorem dM_find_78 : decode prog_7_method_21_code 78 = .ok (.iload_n 2, 1) := by decide +kernel
theorem dM_find_79 : decode prog_7_method_21_code 79 = .ok (.invokevirtual 84, 3) := by decide +kernel
theorem dM_find_82 : decode prog_7_method_21_code 82 = .ok (.invokevirtual 80, 3) := by decide +kernel
theorem dM_find_85 : decode prog_7_method_21_code 85 = .ok (.invokevirtual 125, 3) := by decide +kernel
theorem dM_find_88 : decode prog_7_method_21_code 88 = .ok (.goto 54, 3) := by decide +kernel
theorem dM_find_91 : decode prog_7_method_21_code 91 = .ok (.iconst 0, 1) := by decide +kernel
theorem dM_find_92 : decode prog_7_method_21_code 92 = .ok (.istore_n 3, 1) := by decide +kernel
theorem dM_find_93 : decode prog_7_method_21_code 93 = .ok (.iload_n 3, 1) := by decide +kernel
theorem dM_find_94 : decode prog_7_method_21_code 94 = .ok (.aload_n 0, 1) := by decide +kernel
theorem dM_find_95 : decode prog_7_method_21_code 95 = .ok (.getfield 60, 3) := by decide +kernel
theorem dM_find_98 : decode prog_7_method_21_code 98 = .ok (.if_icmp .ge 27, 3) := by decide +kernel
theorem dM_find_101 : decode prog_7_method_21_code 101 = .ok (.aload_n 0, 1) := by decide +kernel
theorem dM_find_102 : decode prog_7_method_21_code 102 = .ok (.iload_n 2, 1) := by decide +kernel
theorem dM_find_103 : decode prog_7_method_21_code 103 = .ok (.iload_n 3, 1) := by decide +kernel
theorem dM_find_104 : decode prog_7_method_21_code 104 = .ok (.ishr, 1) := by decide +kernel
theorem dM_find_105 : decode prog_7_method_21_code 105 = .ok (.iconst 1, 1) := by decide +kernel
theorem dM_find_106 : decode prog_7_method_21_code 106 = .ok (.iand, 1) := by decide +kernel
theorem dM_find_107 : decode prog_7_method_21_code 107 = .ok (.iconst 1, 1) := by decide +kernel
theorem dM_find_108 : decode prog_7_method_21_code 108 = .ok (.if_icmp .ne 7, 3) := by decide +kernel
theorem dM_find_111 : decode prog_7_method_21_code 111 = .ok (.iconst 1, 1) := by decide +kernel
theorem dM_find_112 : decode prog_7_method_21_code 112 = .ok (.goto 4, 3) := by decide +kernel
theorem dM_find_115 : decode prog_7_method_21_code 115 = .ok (.iconst 0, 1) := by decide +kernel
theorem dM_find_116 : decode prog_7_method_21_code 116 = .ok (.invokevirtual 117, 3) := by decide +kernel
theorem dM_find_119 : decode prog_7_method_21_code 119 = .ok (.iinc 3 1, 3) := by decide +kernel
theorem dM_find_122 : decode prog_7_method_21_code 122 = .ok (.goto (-29), 3) := by decide +kernel
theorem dM_find_125 : decode prog_7_method_21_code 125 = .ok (.aload_n 0, 1) := by decide +kernel
theorem dM_find_126 : decode prog_7_method_21_code 126 = .ok (.iload_n 1, 1) := by decide +kernel
theorem dM_find_127 : decode prog_7_method_21_code 127 = .ok (.aload_n 0, 1) := by decide +kernel
theorem dM_find_128 : decode prog_7_method_21_code 128 = .ok (.iload_n 1, 1) := by decide +kernel
theorem dM_find_129 : decode prog_7_method_21_code 129 = .ok (.aload_n 0, 1) := by decide +kernel
theorem dM_find_130 : decode prog_7_method_21_code 130 = .ok (.iload_n 1, 1) := by decide +kernel
theorem dM_find_131 : decode prog_7_method_21_code 131 = .ok (.bipush (-2), 2) := by decide +kernel
theorem dM_find_133 : decode prog_7_method_21_code 133 = .ok (.invokevirtual 84, 3) := by decide +kernel
theorem dM_find_136 : decode prog_7_method_21_code 136 = .ok (.invokevirtual 80, 3) := by decide +kernel
theorem dM_find_139 : decode prog_7_method_21_code 139 = .ok (.invokevirtual 125, 3) := by decide +kernel
theorem dM_find_142 : decode prog_7_method_21_code 142 = .ok (.return_, 1) := by decide +kernel
def LM_find_93 (a0 : Nat) (p2 : Int32) (K9 : Hp → Option Hp) (rec18 : Hp → Int32 → Option Hp) (h16 : Hp) (x17 : Int32) : Option Hp :=
  gI h16 a0 5 1 (fun x19 =>
  if x19 ≤ x17 then
    (K9 h16)
  else
    (jn (fun (y20 : Int32) (b21 : Nat) =>
    gd (isO h16 b21 5 = true) ((FM_adds h16 b21 y20).bind (fun r24 =>
    rec18 r24 (x17 + 1))))
    (fun (j22 : Int32 → Nat → Option Hp) =>
    if ((p2 >>> (x17 &&& 31)) &&& 1) = 1 then
      (j22 1 a0)
    else
      (j22 0 a0))))
def LM_find_24 (a0 : Nat) (p1 : Int32) (K33 : Hp → Option Hp) (rec36 : Hp → Int32 → Option Hp) (h34 : Hp) (x35 : Int32) : Option Hp :=
  if x35 = 0 then
    (K33 h34)
  else
    (gR h34 a0 5 12 (fun a37 =>
    ldI h34 a37 1 ((129 * p1) + x35) (fun x38 =>
    gd (isO h34 a0 5 = true) ((FM_adds h34 a0 x38).bind (fun r40 =>
    gR r40 a0 5 11 (fun a41 =>
    ldI r40 a41 0 ((129 * p1) + x35) (fun x42 =>
    rec36 r40 x42)))))))
def FM_find (h0 : Hp) (a0 : Nat) (p1 : Int32) (p2 : Int32) : Option Hp :=
  pF h0 a0 5 25 (.int 0) (fun h1 =>
  gR h1 a0 5 3 (fun a2 =>
  ldI h1 a2 0 p1 (fun x3 =>
  jn (fun (h4 : Hp) =>
  some h4)
  (fun (j5 : Hp → Option Hp) =>
  if x3 = 1 then
    (gI h1 a0 5 0 (fun x31 =>
    jn (fun (h32 : Hp) =>
    j5 h32)
    (fun (K33 : Hp → Option Hp) =>
    lpG (fun _ _ => none) fu (LM_find_24 a0 p1 K33) h1 ((x31 - 1) + p2))))
  else
    (gd (isO h1 a0 5 = true) ((FM_isKnown h1 a0 p1 p2).bind (fun r7 =>
    if r7 = 0 then
      (jn (fun (h8 : Hp) =>
      gd (isO h8 a0 5 = true) ((FM_nodeOf h8 a0 p1 (-2)).bind (fun r11 =>
      gd (isO h8 a0 5 = true) ((FM_placeOf h8 a0 p1 r11).bind (fun r13 =>
      gd (isO h8 a0 5 = true) ((FM_wayUp h8 a0 p1 r13).bind (fun r15 =>
      j5 r15)))))))
      (fun (K9 : Hp → Option Hp) =>
      lpG (fun _ _ => none) fu (LM_find_93 a0 p2 K9) h1 0))
    else
      (gd (isO h1 a0 5 = true) ((FM_nodeOf h1 a0 p1 p2).bind (fun r26 =>
      gd (isO h1 a0 5 = true) ((FM_placeOf h1 a0 p1 r26).bind (fun r28 =>
      gd (isO h1 a0 5 = true) ((FM_wayUp h1 a0 p1 r28).bind (fun r30 =>
      j5 r30))))))))))))))
set_option maxRecDepth 100000 in
set_option maxHeartbeats 4000000 in
theorem mM_find (l : Launch) (h0 : Hp) (z0 : Nat) (a0 : Nat) (p1 : Int32) (p2 : Int32) (r : Hp) (hr : FM_find h0 a0 p1 p2 = some r) : vM False l yM_find (Cond.code yM_find prog_7_method_21_code 4 none :: gW) 3 [.ref a0, .int p1, .int p2] h0 z0 r z0 none 0 0 := by
  refine vM.of (by decide) rfl (Nat.le_of_ble_eq_true rfl) ?_
  intro p e s m args below meth c D dA C hin2
  refine (?_ : vO p l e (vR 3 0 0) s m args below meth c D dA (vA h0 z0) 4 False (fun r : Hp => MQ below (vQc False h0 z0 D dA r z0 none) args s 0 0 (vAr False h0 z0)) 0 0 h0 z0 [(0, .ref a0), (1, .int p1), (2, .int p2)] 0 [] (FM_find h0 a0 p1 p2)) r hr
  obtain ⟨Q, hQ⟩ : ∃ Q : Hp → State → Prop, Q = (fun r : Hp => MQ below (vQc False h0 z0 D dA r z0 none) args s 0 0 (vAr False h0 z0)) := ⟨_, rfl⟩
  rw [← hQ]
  unfold FM_find
  refine v_aload_n C dM_find_0 rfl 0 rfl ?_
  refine v_iconst (v := 0) C dM_find_1 (by decide) ?_
  refine v_put C v_cl5 (by decide) in_5 ty_5 ty_5_ok nm_5 rfl w_634 rfl (ty := .int) (by decide +kernel) rfl rfl dM_find_2 (fun h1 => ?_)
  refine v_aload_n C dM_find_5 rfl 0 rfl ?_
  refine v_getR C v_cl5 (by decide) in_5 rfl w_612 dM_find_6 (fun a2 => ?_)
  refine v_iload_n C dM_find_9 rfl 1 rfl ?_
  refine v_iald C rfl dM_find_10 (fun x3 => ?_)
  refine v_iconst (v := 1) C dM_find_11 (by decide) ?_
  refine v_jn (fun (j : Hp → Option Hp) => ∀ (h4 : Hp), vO p l e (vR 3 0 0) s m args below meth c D dA (vA h0 z0) 4 False Q 0 0 h4 z0 [] 142 [] (j h4)) ?_ (fun j5 Hj5 => ?_)
  · intro h4
    exact v_vret C dM_find_142 (by rw [hQ])
  · refine v_icmp_ne (tgt := 63) C dM_find_12 (by decide) ?_ ?_
    · refine v_aload_n C dM_find_63 rfl 0 rfl ?_
      refine v_iload_n C dM_find_64 rfl 1 rfl ?_
      refine v_iload_n C dM_find_65 rfl 2 rfl ?_
      refine v_gd fun hO6 => ?_
      refine v_bind fun r7 hr7 => ?_
      refine v_callV0 (N := 2) (As := [.int p1, .int p2]) (st := []) C (fun _ => trivial) (mM_isKnown l h1 z0 a0 p1 p2 r7 hr7) rfl w_719 w_53 (by decide +kernel) ⟨Nat.le_of_ble_eq_true rfl, Nat.le_of_ble_eq_true rfl⟩ rfl rfl (Nat.le_of_ble_eq_true rfl) ⟨Nat.zero_le _, Nat.zero_le _⟩ w_716 w_718 w_27 v_cl5 rfl hO6 dM_find_66 ?_
      refine v_if_eq (tgt := 91) C dM_find_69 (by decide) ?_ ?_
      · refine v_iconst (v := 0) C dM_find_91 (by decide) ?_
        refine v_istore_n (lv' := [(0, .ref a0), (1, .int p1), (2, .int p2), (3, .int 0)]) C dM_find_92 rfl (by decide) [1, 2, 3, 0] rfl ?_
        refine v_jn (fun (j : Hp → Option Hp) => ∀ (h8 : Hp), vO p l e (vR 3 0 0) s m args below meth c D dA (vA h0 z0) 4 False Q 0 0 h8 z0 [(0, .ref a0), (1, .int p1)] 125 [] (j h8)) ?_ (fun K9 HK9 => ?_)
        · intro h8
          refine v_aload_n C dM_find_125 rfl 0 rfl ?_
          refine v_iload_n C dM_find_126 rfl 1 rfl ?_
          refine v_aload_n C dM_find_127 rfl 0 rfl ?_
          refine v_iload_n C dM_find_128 rfl 1 rfl ?_
          refine v_aload_n C dM_find_129 rfl 0 rfl ?_
          refine v_iload_n C dM_find_130 rfl 1 rfl ?_
          refine v_bipush (v := (-2)) C dM_find_131 (by decide) ?_
          refine v_gd fun hO10 => ?_
          refine v_bind fun r11 hr11 => ?_
          refine v_callV0 (N := 2) (As := [.int p1, .int (-2)]) (st := [.int p1, .ref a0, .int p1, .ref a0]) C (fun _ => trivial) (mM_nodeOf l h8 z0 a0 p1 (-2) r11 hr11) rfl w_723 w_53 (by decide +kernel) ⟨Nat.le_of_ble_eq_true rfl, Nat.le_of_ble_eq_true rfl⟩ rfl rfl (Nat.le_of_ble_eq_true rfl) ⟨Nat.zero_le _, Nat.zero_le _⟩ w_720 w_722 w_28 v_cl5 rfl hO10 dM_find_133 ?_
          refine v_gd fun hO12 => ?_
          refine v_bind fun r13 hr13 => ?_
          refine v_callV0 (N := 2) (As := [.int p1, .int r11]) (st := [.int p1, .ref a0]) C (fun _ => trivial) (mM_placeOf l h8 z0 a0 p1 r11 r13 hr13) rfl w_727 w_53 (by decide +kernel) ⟨Nat.le_of_ble_eq_true rfl, Nat.le_of_ble_eq_true rfl⟩ rfl rfl (Nat.le_of_ble_eq_true rfl) ⟨Nat.zero_le _, Nat.zero_le _⟩ w_724 w_726 w_29 v_cl5 rfl hO12 dM_find_136 ?_
          refine v_gd fun hO14 => ?_
          refine v_bind fun r15 hr15 => ?_
          refine v_callV0 (N := 2) (As := [.int p1, .int r13]) (st := []) C (fun f => f.elim) (mM_wayUp l h8 z0 a0 p1 r13 r15 hr15) rfl w_731 w_53 (by decide +kernel) ⟨Nat.le_of_ble_eq_true rfl, Nat.le_of_ble_eq_true rfl⟩ rfl rfl (Nat.le_of_ble_eq_true rfl) ⟨Nat.zero_le _, Nat.zero_le _⟩ w_728 w_730 w_30 v_cl5 rfl hO14 dM_find_139 ?_
          refine v_lv (lv' := []) [] rfl ?_
          exact Hj5 r15
        · refine lpG_ind (bot := (fun _ _ => none)) (B := LM_find_93 a0 p2 K9) (fun (r : Hp → Int32 → Option Hp) => ∀ (h16 : Hp), ∀ (x17 : Int32), vO p l e (vR 3 0 0) s m args below meth c D dA (vA h0 z0) 4 False Q 0 0 h16 z0 [(0, .ref a0), (1, .int p1), (2, .int p2), (3, .int x17)] 93 [] (r h16 x17)) ?_ ?_ fu h1 0
          · intro h16 x17
            exact v_none
          · intro rec18 Hrec18 h16 x17
            unfold LM_find_93
            refine v_iload_n C dM_find_93 rfl 3 rfl ?_
            refine v_aload_n C dM_find_94 rfl 0 rfl ?_
            refine v_getI C v_cl5 (by decide) in_5 rfl w_610 dM_find_95 (fun x19 => ?_)
            refine v_icmp_ge (tgt := 125) C dM_find_98 (by decide) ?_ ?_
            · refine v_lv (lv' := [(0, .ref a0), (1, .int p1)]) [0, 1] rfl ?_
              exact HK9 h16
            · refine v_aload_n C dM_find_101 rfl 0 rfl ?_
              refine v_iload_n C dM_find_102 rfl 2 rfl ?_
              refine v_iload_n C dM_find_103 rfl 3 rfl ?_
              refine v_ishr C dM_find_104 ?_
              refine v_iconst (v := 1) C dM_find_105 (by decide) ?_
              refine v_iand C dM_find_106 ?_
              refine v_iconst (v := 1) C dM_find_107 (by decide) ?_
              refine v_jn (fun (j : Int32 → Nat → Option Hp) => ∀ (y20 : Int32), ∀ (b21 : Nat), vO p l e (vR 3 0 0) s m args below meth c D dA (vA h0 z0) 4 False Q 0 0 h16 z0 [(0, .ref a0), (1, .int p1), (2, .int p2), (3, .int x17)] 116 [.int y20, .ref b21] (j y20 b21)) ?_ (fun j22 Hj22 => ?_)
              · intro y20 b21
                refine v_gd fun hO23 => ?_
                refine v_bind fun r24 hr24 => ?_
                refine v_callV0 (N := 1) (As := [.int y20]) (st := []) C (fun f => f.elim) (mM_adds l h16 z0 b21 y20 r24 hr24) rfl w_715 w_53 (by decide +kernel) ⟨Nat.le_of_ble_eq_true rfl, Nat.le_of_ble_eq_true rfl⟩ rfl rfl (Nat.le_of_ble_eq_true rfl) ⟨Nat.zero_le _, Nat.zero_le _⟩ w_712 w_714 w_26 v_cl5 rfl hO23 dM_find_116 ?_
                refine v_iinc (v := (x17 + 1)) (lv' := [(0, .ref a0), (1, .int p1), (2, .int p2), (3, .int (x17 + 1))]) C dM_find_119 3 rfl rfl (by decide) [1, 2, 3, 0] rfl ?_
                refine v_goto (tgt := 93) C dM_find_122 (by decide) ?_
                exact Hrec18 r24 (x17 + 1)
              · refine v_icmp_ne (tgt := 115) C dM_find_108 (by decide) ?_ ?_
                · refine v_iconst (v := 0) C dM_find_115 (by decide) ?_
                  exact Hj22 0 a0
                · refine v_iconst (v := 1) C dM_find_111 (by decide) ?_
                  refine v_goto (tgt := 116) C dM_find_112 (by decide) ?_
                  exact Hj22 1 a0
      · refine v_aload_n C dM_find_72 rfl 0 rfl ?_
        refine v_iload_n C dM_find_73 rfl 1 rfl ?_
        refine v_aload_n C dM_find_74 rfl 0 rfl ?_
        refine v_iload_n C dM_find_75 rfl 1 rfl ?_
        refine v_aload_n C dM_find_76 rfl 0 rfl ?_
        refine v_iload_n C dM_find_77 rfl 1 rfl ?_
        refine v_iload_n C dM_find_78 rfl 2 rfl ?_
        refine v_gd fun hO25 => ?_
        refine v_bind fun r26 hr26 => ?_
        refine v_callV0 (N := 2) (As := [.int p1, .int p2]) (st := [.int p1, .ref a0, .int p1, .ref a0]) C (fun _ => trivial) (mM_nodeOf l h1 z0 a0 p1 p2 r26 hr26) rfl w_723 w_53 (by decide +kernel) ⟨Nat.le_of_ble_eq_true rfl, Nat.le_of_ble_eq_true rfl⟩ rfl rfl (Nat.le_of_ble_eq_true rfl) ⟨Nat.zero_le _, Nat.zero_le _⟩ w_720 w_722 w_28 v_cl5 rfl hO25 dM_find_79 ?_
        refine v_gd fun hO27 => ?_
        refine v_bind fun r28 hr28 => ?_
        refine v_callV0 (N := 2) (As := [.int p1, .int r26]) (st := [.int p1, .ref a0]) C (fun _ => trivial) (mM_placeOf l h1 z0 a0 p1 r26 r28 hr28) rfl w_727 w_53 (by decide +kernel) ⟨Nat.le_of_ble_eq_true rfl, Nat.le_of_ble_eq_true rfl⟩ rfl rfl (Nat.le_of_ble_eq_true rfl) ⟨Nat.zero_le _, Nat.zero_le _⟩ w_724 w_726 w_29 v_cl5 rfl hO27 dM_find_82 ?_
        refine v_gd fun hO29 => ?_
        refine v_bind fun r30 hr30 => ?_
        refine v_callV0 (N := 2) (As := [.int p1, .int r28]) (st := []) C (fun f => f.elim) (mM_wayUp l h1 z0 a0 p1 r28 r30 hr30) rfl w_731 w_53 (by decide +kernel) ⟨Nat.le_of_ble_eq_true rfl, Nat.le_of_ble_eq_true rfl⟩ rfl rfl (Nat.le_of_ble_eq_true rfl) ⟨Nat.zero_le _, Nat.zero_le _⟩ w_728 w_730 w_30 v_cl5 rfl hO29 dM_find_85 ?_
        refine v_goto (tgt := 142) C dM_find_88 (by decide) ?_
        refine v_lv (lv' := []) [] rfl ?_
        exact Hj5 r30
    · refine v_aload_n C dM_find_15 rfl 0 rfl ?_
      refine v_getI C v_cl5 (by decide) in_5 rfl w_609 dM_find_16 (fun x31 => ?_)
      refine v_iconst (v := 1) C dM_find_19 (by decide) ?_
      refine v_isub C dM_find_20 ?_
      refine v_iload_n C dM_find_21 rfl 2 rfl ?_
      refine v_iadd C dM_find_22 ?_
      refine v_istore_n (lv' := [(0, .ref a0), (1, .int p1), (3, .int ((x31 - 1) + p2))]) C dM_find_23 rfl (by decide) [1, 2, 0] rfl ?_
      refine v_jn (fun (j : Hp → Option Hp) => ∀ (h32 : Hp), vO p l e (vR 3 0 0) s m args below meth c D dA (vA h0 z0) 4 False Q 0 0 h32 z0 [] 60 [] (j h32)) ?_ (fun K33 HK33 => ?_)
      · intro h32
        refine v_goto (tgt := 142) C dM_find_60 (by decide) ?_
        exact Hj5 h32
      · refine lpG_ind (bot := (fun _ _ => none)) (B := LM_find_24 a0 p1 K33) (fun (r : Hp → Int32 → Option Hp) => ∀ (h34 : Hp), ∀ (x35 : Int32), vO p l e (vR 3 0 0) s m args below meth c D dA (vA h0 z0) 4 False Q 0 0 h34 z0 [(0, .ref a0), (1, .int p1), (3, .int x35)] 24 [] (r h34 x35)) ?_ ?_ fu h1 ((x31 - 1) + p2)
        · intro h34 x35
          exact v_none
        · intro rec36 Hrec36 h34 x35
          unfold LM_find_24
          refine v_iload_n C dM_find_24 rfl 2 rfl ?_
          refine v_if_eq (tgt := 60) C dM_find_25 (by decide) ?_ ?_
          · refine v_lv (lv' := []) [] rfl ?_
            exact HK33 h34
          · refine v_aload_n C dM_find_28 rfl 0 rfl ?_
            refine v_aload_n C dM_find_29 rfl 0 rfl ?_
            refine v_getR C v_cl5 (by decide) in_5 rfl w_621 dM_find_30 (fun a37 => ?_)
            refine v_sipush (v := 129) C dM_find_33 (by decide) ?_
            refine v_iload_n C dM_find_36 rfl 1 rfl ?_
            refine v_imul C dM_find_37 ?_
            refine v_iload_n C dM_find_38 rfl 2 rfl ?_
            refine v_iadd C dM_find_39 ?_
            refine v_zald C rfl dM_find_40 (fun x38 => ?_)
            refine v_gd fun hO39 => ?_
            refine v_bind fun r40 hr40 => ?_
            refine v_callV0 (N := 1) (As := [.int x38]) (st := []) C (fun f => f.elim) (mM_adds l h34 z0 a0 x38 r40 hr40) rfl w_715 w_53 (by decide +kernel) ⟨Nat.le_of_ble_eq_true rfl, Nat.le_of_ble_eq_true rfl⟩ rfl rfl (Nat.le_of_ble_eq_true rfl) ⟨Nat.zero_le _, Nat.zero_le _⟩ w_712 w_714 w_26 v_cl5 rfl hO39 dM_find_41 ?_
            refine v_aload_n C dM_find_44 rfl 0 rfl ?_
            refine v_getR C v_cl5 (by decide) in_5 rfl w_620 dM_find_45 (fun a41 => ?_)
            refine v_sipush (v := 129) C dM_find_48 (by decide) ?_
            refine v_iload_n C dM_find_51 rfl 1 rfl ?_
            refine v_imul C dM_find_52 ?_
            refine v_iload_n C dM_find_53 rfl 2 rfl ?_
            refine v_iadd C dM_find_54 ?_
            refine v_iald C rfl dM_find_55 (fun x42 => ?_)
            refine v_istore_n (lv' := [(0, .ref a0), (1, .int p1), (3, .int x42)]) C dM_find_56 rfl (by decide) [1, 2, 0] rfl ?_
            refine v_goto (tgt := 24) C dM_find_57 (by decide) ?_
            exact Hrec36 r40 x42
theorem dM_form_0 : decode prog_7_method_22_code 0 = .ok (.aload_n 0, 1) := by decide +kernel
theorem dM_form_1 : decode prog_7_method_22_code 1 = .ok (.iconst 0, 1) := by decide +kernel
theorem dM_form_2 : decode prog_7_method_22_code 2 = .ok (.putfield 73, 3) := by decide +kernel
theorem dM_form_5 : decode prog_7_method_22_code 5 = .ok (.iload_n 1, 1) := by decide +kernel
theorem dM_form_6 : decode prog_7_method_22_code 6 = .ok (.iconst 0, 1) := by decide +kernel
theorem dM_form_7 : decode prog_7_method_22_code 7 = .ok (.iconst 3, 1) := by decide +kernel
theorem dM_form_8 : decode prog_7_method_22_code 8 = .ok (.invokestatic 76, 3) := by decide +kernel
theorem dM_form_11 : decode prog_7_method_22_code 11 = .ok (.ifCond .ne 6, 3) := by decide +kernel
theorem dM_form_14 : decode prog_7_method_22_code 14 = .ok (.bipush (-2), 2) := by decide +kernel
theorem dM_form_16 : decode prog_7_method_22_code 16 = .ok (.ireturn, 1) := by decide +kernel
theorem dM_form_17 : decode prog_7_method_22_code 17 = .ok (.iload_n 2, 1) := by decide +kernel
theorem dM_form_18 : decode prog_7_method_22_code 18 = .ok (.iconst 0, 1) := by decide +kernel
theorem dM_form_19 : decode prog_7_method_22_code 19 = .ok (.iconst 1, 1) := by decide +kernel
theorem dM_form_20 : decode prog_7_method_22_code 20 = .ok (.invokestatic 76, 3) := by decide +kernel
theorem dM_form_23 : decode prog_7_method_22_code 23 = .ok (.ifCond .ne 6, 3) := by decide +kernel
theorem dM_form_26 : decode prog_7_method_22_code 26 = .ok (.bipush (-3), 2) := by decide +kernel
theorem dM_form_28 : decode prog_7_method_22_code 28 = .ok (.ireturn, 1) := by decide +kernel
theorem dM_form_29 : decode prog_7_method_22_code 29 = .ok (.aload_n 0, 1) := by decide +kernel
theorem dM_form_30 : decode prog_7_method_22_code 30 = .ok (.getfield 7, 3) := by decide +kernel
theorem dM_form_33 : decode prog_7_method_22_code 33 = .ok (.iload_n 1, 1) := by decide +kernel
theorem dM_form_34 : decode prog_7_method_22_code 34 = .ok (.iaload, 1) := by decide +kernel
theorem dM_form_35 : decode prog_7_method_22_code 35 = .ok (.istore_n 3, 1) := by decide +kernel
theorem dM_form_36 : decode prog_7_method_22_code 36 = .ok (.aload_n 0, 1) := by decide +kernel
theorem dM_form_37 : decode prog_7_method_22_code 37 = .ok (.iload_n 1, 1) := by decide +kernel
theorem dM_form_38 : decode prog_7_method_22_code 38 = .ok (.iload_n 2, 1) := by decide +kernel
theorem dM_form_39 : decode prog_7_method_22_code 39 = .ok (.invokevirtual 69, 3) := by decide +kernel
theorem dM_form_42 : decode prog_7_method_22_code 42 = .ok (.aload_n 0, 1) := by decide +kernel
theorem dM_form_43 : decode prog_7_method_22_code 43 = .ok (.iconst 4, 1) := by decide +kernel
theorem dM_form_44 : decode prog_7_method_22_code 44 = .ok (.iload_n 1, 1) := by decide +kernel
theorem dM_form_45 : decode prog_7_method_22_code 45 = .ok (.iadd, 1) := by decide +kernel
theorem dM_form_46 : decode prog_7_method_22_code 46 = .ok (.iload_n 2, 1) := by decide +kernel
theorem dM_form_47 : decode prog_7_method_22_code 47 = .ok (.invokevirtual 69, 3) := by decide +kernel
theorem dM_form_50 : decode prog_7_method_22_code 50 = .ok (.aload_n 0, 1) := by decide +kernel
theorem dM_form_51 : decode prog_7_method_22_code 51 = .ok (.aload_n 0, 1) := by decide +kernel
theorem dM_form_52 : decode prog_7_method_22_code 52 = .ok (.getfield 66, 3) := by decide +kernel
theorem dM_form_55 : decode prog_7_method_22_code 55 = .ok (.iconst 4, 1) := by decide +kernel
theorem dM_form_56 : decode prog_7_method_22_code 56 = .ok (.iload_n 1, 1) := by decide +kernel
theorem dM_form_57 : decode prog_7_method_22_code 57 = .ok (.iadd, 1) := by decide +kernel
theorem dM_form_58 : decode prog_7_method_22_code 58 = .ok (.if_icmp .ne 7, 3) := by decide +kernel
theorem dM_form_61 : decode prog_7_method_22_code 61 = .ok (.iconst (-1), 1) := by decide +kernel
theorem dM_form_62 : decode prog_7_method_22_code 62 = .ok (.goto 7, 3) := by decide +kernel
theorem dM_form_65 : decode prog_7_method_22_code 65 = .ok (.aload_n 0, 1) := by decide +kernel
theorem dM_form_66 : decode prog_7_method_22_code 66 = .ok (.getfield 66, 3) := by decide +kernel
theorem dM_form_69 : decode prog_7_method_22_code 69 = .ok (.putfield 66, 3) := by decide +kernel
theorem dM_form_72 : decode prog_7_method_22_code 72 = .ok (.iload_n 3, 1) := by decide +kernel
theorem dM_form_73 : decode prog_7_method_22_code 73 = .ok (.ireturn, 1) := by decide +kernel
def FM_form (h0 : Hp) (a0 : Nat) (p1 : Int32) (p2 : Int32) : Option (Hp × Int32) :=
  pF h0 a0 5 20 (.int 0) (fun h1 =>
  (FM_isIn h1 p1 0 3).bind (fun r2 =>
  if r2 = 0 then
    (some (h1, (-2)))
  else
    ((FM_isIn h1 p2 0 1).bind (fun r3 =>
    if r3 = 0 then
      (some (h1, (-3)))
    else
      (gR h1 a0 5 3 (fun a4 =>
      ldI h1 a4 0 p1 (fun x5 =>
      gd (isO h1 a0 5 = true) ((FM_begin h1 a0 p1 p2).bind (fun r7 =>
      gd (isO r7 a0 5 = true) ((FM_begin r7 a0 (4 + p1) p2).bind (fun r9 =>
      gI r9 a0 5 16 (fun x10 =>
      jn (fun (y11 : Int32) (b12 : Nat) =>
      pF r9 b12 5 16 (.int y11) (fun h14 =>
      some (h14, x5)))
      (fun (j13 : Int32 → Nat → Option (Hp × Int32)) =>
      if x10 = (4 + p1) then
        (j13 (-1) a0)
      else
        (gI r9 a0 5 16 (fun x15 =>
        j13 x15 a0)))))))))))))))
set_option maxRecDepth 100000 in
set_option maxHeartbeats 4000000 in
theorem mM_form (l : Launch) (h0 : Hp) (z0 : Nat) (a0 : Nat) (p1 : Int32) (p2 : Int32) (r : (Hp × Int32)) (hr : FM_form h0 a0 p1 p2 = some r) : vM False l yM_form (Cond.code yM_form prog_7_method_22_code 4 (some (.int)) :: gW) 1 [.ref a0, .int p1, .int p2] h0 z0 r.1 z0 (some (.int r.2)) 0 0 := by
  refine vM.of (by decide) rfl (Nat.le_of_ble_eq_true rfl) ?_
  intro p e s m args below meth c D dA C hin2
  refine (?_ : vO p l e (vR 1 0 0) s m args below meth c D dA (vA h0 z0) 4 False (fun r : (Hp × Int32) => MQ below (vQc False h0 z0 D dA r.1 z0 (some (.int r.2))) args s 0 0 (vAr False h0 z0)) 0 0 h0 z0 [(0, .ref a0), (1, .int p1), (2, .int p2)] 0 [] (FM_form h0 a0 p1 p2)) r hr
  obtain ⟨Q, hQ⟩ : ∃ Q : (Hp × Int32) → State → Prop, Q = (fun r : (Hp × Int32) => MQ below (vQc False h0 z0 D dA r.1 z0 (some (.int r.2))) args s 0 0 (vAr False h0 z0)) := ⟨_, rfl⟩
  rw [← hQ]
  unfold FM_form
  refine v_aload_n C dM_form_0 rfl 0 rfl ?_
  refine v_iconst (v := 0) C dM_form_1 (by decide) ?_
  refine v_put C v_cl5 (by decide) in_5 ty_5 ty_5_ok nm_5 rfl w_629 rfl (ty := .int) (by decide +kernel) rfl rfl dM_form_2 (fun h1 => ?_)
  refine v_iload_n C dM_form_5 rfl 1 rfl ?_
  refine v_iconst (v := 0) C dM_form_6 (by decide) ?_
  refine v_iconst (v := 3) C dM_form_7 (by decide) ?_
  refine v_bind fun r2 hr2 => ?_
  refine v_callS0 (N := 3) (As := [.int p1, .int 0, .int 3]) (st := []) C (fun _ => trivial) (mM_isIn l h1 z0 p1 0 3 r2 hr2) rfl w_698 w_53 (by decide +kernel) ⟨Nat.le_of_ble_eq_true rfl, Nat.le_of_ble_eq_true rfl⟩ rfl rfl (Nat.le_of_ble_eq_true rfl) ⟨Nat.zero_le _, Nat.zero_le _⟩ w_696 w_697 dM_form_8 ?_
  refine v_if_ne (tgt := 17) C dM_form_11 (by decide) ?_ ?_
  · refine v_iload_n C dM_form_17 rfl 2 rfl ?_
    refine v_iconst (v := 0) C dM_form_18 (by decide) ?_
    refine v_iconst (v := 1) C dM_form_19 (by decide) ?_
    refine v_bind fun r3 hr3 => ?_
    refine v_callS0 (N := 3) (As := [.int p2, .int 0, .int 1]) (st := []) C (fun _ => trivial) (mM_isIn l h1 z0 p2 0 1 r3 hr3) rfl w_698 w_53 (by decide +kernel) ⟨Nat.le_of_ble_eq_true rfl, Nat.le_of_ble_eq_true rfl⟩ rfl rfl (Nat.le_of_ble_eq_true rfl) ⟨Nat.zero_le _, Nat.zero_le _⟩ w_696 w_697 dM_form_20 ?_
    refine v_if_ne (tgt := 29) C dM_form_23 (by decide) ?_ ?_
    · refine v_aload_n C dM_form_29 rfl 0 rfl ?_
      refine v_getR C v_cl5 (by decide) in_5 rfl w_612 dM_form_30 (fun a4 => ?_)
      refine v_iload_n C dM_form_33 rfl 1 rfl ?_
      refine v_iald C rfl dM_form_34 (fun x5 => ?_)
      refine v_istore_n (lv' := [(0, .ref a0), (1, .int p1), (2, .int p2), (3, .int x5)]) C dM_form_35 rfl (by decide) [1, 2, 3, 0] rfl ?_
      refine v_aload_n C dM_form_36 rfl 0 rfl ?_
      refine v_iload_n C dM_form_37 rfl 1 rfl ?_
      refine v_iload_n C dM_form_38 rfl 2 rfl ?_
      refine v_gd fun hO6 => ?_
      refine v_bind fun r7 hr7 => ?_
      refine v_callV0 (N := 2) (As := [.int p1, .int p2]) (st := []) C (fun f => f.elim) (mM_begin l h1 z0 a0 p1 p2 r7 hr7) rfl w_608 w_53 (by decide +kernel) ⟨Nat.le_of_ble_eq_true rfl, Nat.le_of_ble_eq_true rfl⟩ rfl rfl (Nat.le_of_ble_eq_true rfl) ⟨Nat.zero_le _, Nat.zero_le _⟩ w_605 w_607 w_24 v_cl5 rfl hO6 dM_form_39 ?_
      refine v_aload_n C dM_form_42 rfl 0 rfl ?_
      refine v_iconst (v := 4) C dM_form_43 (by decide) ?_
      refine v_iload_n C dM_form_44 rfl 1 rfl ?_
      refine v_iadd C dM_form_45 ?_
      refine v_iload_n C dM_form_46 rfl 2 rfl ?_
      refine v_gd fun hO8 => ?_
      refine v_bind fun r9 hr9 => ?_
      refine v_callV0 (N := 2) (As := [.int (4 + p1), .int p2]) (st := []) C (fun f => f.elim) (mM_begin l r7 z0 a0 (4 + p1) p2 r9 hr9) rfl w_608 w_53 (by decide +kernel) ⟨Nat.le_of_ble_eq_true rfl, Nat.le_of_ble_eq_true rfl⟩ rfl rfl (Nat.le_of_ble_eq_true rfl) ⟨Nat.zero_le _, Nat.zero_le _⟩ w_605 w_607 w_24 v_cl5 rfl hO8 dM_form_47 ?_
      refine v_aload_n C dM_form_50 rfl 0 rfl ?_
      refine v_aload_n C dM_form_51 rfl 0 rfl ?_
      refine v_getI C v_cl5 (by decide) in_5 rfl w_625 dM_form_52 (fun x10 => ?_)
      refine v_iconst (v := 4) C dM_form_55 (by decide) ?_
      refine v_iload_n C dM_form_56 rfl 1 rfl ?_
      refine v_iadd C dM_form_57 ?_
      refine v_jn (fun (j : Int32 → Nat → Option (Hp × Int32)) => ∀ (y11 : Int32), ∀ (b12 : Nat), vO p l e (vR 1 0 0) s m args below meth c D dA (vA h0 z0) 4 False Q 0 0 r9 z0 [(3, .int x5)] 69 [.int y11, .ref b12] (j y11 b12)) ?_ (fun j13 Hj13 => ?_)
      · intro y11 b12
        refine v_put C v_cl5 (by decide) in_5 ty_5 ty_5_ok nm_5 rfl w_625 rfl (ty := .int) (by decide +kernel) rfl rfl dM_form_69 (fun h14 => ?_)
        refine v_iload_n C dM_form_72 rfl 0 rfl ?_
        exact v_iret C dM_form_73 (by rw [hQ])
      · refine v_icmp_ne (tgt := 65) C dM_form_58 (by decide) ?_ ?_
        · refine v_aload_n C dM_form_65 rfl 0 rfl ?_
          refine v_getI C v_cl5 (by decide) in_5 rfl w_625 dM_form_66 (fun x15 => ?_)
          refine v_lv (lv' := [(3, .int x5)]) [3] rfl ?_
          exact Hj13 x15 a0
        · refine v_iconst (v := (-1)) C dM_form_61 (by decide) ?_
          refine v_goto (tgt := 69) C dM_form_62 (by decide) ?_
          refine v_lv (lv' := [(3, .int x5)]) [3] rfl ?_
          exact Hj13 (-1) a0
    · refine v_bipush (v := (-3)) C dM_form_26 (by decide) ?_
      exact v_iret C dM_form_28 (by rw [hQ])
  · refine v_bipush (v := (-2)) C dM_form_14 (by decide) ?_
    exact v_iret C dM_form_16 (by rw [hQ])
theorem dM_limit_0 : decode prog_7_method_23_code 0 = .ok (.aload_n 0, 1) := by decide +kernel
theorem dM_limit_1 : decode prog_7_method_23_code 1 = .ok (.iconst 0, 1) := by decide +kernel
theorem dM_limit_2 : decode prog_7_method_23_code 2 = .ok (.putfield 73, 3) := by decide +kernel
theorem dM_limit_5 : decode prog_7_method_23_code 5 = .ok (.iload_n 1, 1) := by decide +kernel
theorem dM_limit_6 : decode prog_7_method_23_code 6 = .ok (.bipush 8, 2) := by decide +kernel
theorem dM_limit_8 : decode prog_7_method_23_code 8 = .ok (.ldc 128, 2) := by decide +kernel
theorem dM_limit_10 : decode prog_7_method_23_code 10 = .ok (.invokestatic 76, 3) := by decide +kernel
theorem dM_limit_13 : decode prog_7_method_23_code 13 = .ok (.ifCond .ne 6, 3) := by decide +kernel
theorem dM_limit_16 : decode prog_7_method_23_code 16 = .ok (.bipush (-3), 2) := by decide +kernel
theorem dM_limit_18 : decode prog_7_method_23_code 18 = .ok (.ireturn, 1) := by decide +kernel
theorem dM_limit_19 : decode prog_7_method_23_code 19 = .ok (.aload_n 0, 1) := by decide +kernel
theorem dM_limit_20 : decode prog_7_method_23_code 20 = .ok (.getfield 63, 3) := by decide +kernel
theorem dM_limit_23 : decode prog_7_method_23_code 23 = .ok (.istore_n 2, 1) := by decide +kernel
theorem dM_limit_24 : decode prog_7_method_23_code 24 = .ok (.aload_n 0, 1) := by decide +kernel
theorem dM_limit_25 : decode prog_7_method_23_code 25 = .ok (.iload_n 1, 1) := by decide +kernel
theorem dM_limit_26 : decode prog_7_method_23_code 26 = .ok (.putfield 63, 3) := by decide +kernel
theorem dM_limit_29 : decode prog_7_method_23_code 29 = .ok (.iload_n 2, 1) := by decide +kernel
theorem dM_limit_30 : decode prog_7_method_23_code 30 = .ok (.ireturn, 1) := by decide +kernel
def FM_limit (h0 : Hp) (a0 : Nat) (p1 : Int32) : Option (Hp × Int32) :=
  pF h0 a0 5 20 (.int 0) (fun h1 =>
  (FM_isIn h1 p1 8 100000).bind (fun r2 =>
  if r2 = 0 then
    (some (h1, (-3)))
  else
    (gI h1 a0 5 2 (fun x3 =>
    pF h1 a0 5 2 (.int p1) (fun h4 =>
    some (h4, x3))))))
set_option maxRecDepth 100000 in
set_option maxHeartbeats 4000000 in
theorem mM_limit (l : Launch) (h0 : Hp) (z0 : Nat) (a0 : Nat) (p1 : Int32) (r : (Hp × Int32)) (hr : FM_limit h0 a0 p1 = some r) : vM False l yM_limit (Cond.code yM_limit prog_7_method_23_code 3 (some (.int)) :: gW) 1 [.ref a0, .int p1] h0 z0 r.1 z0 (some (.int r.2)) 0 0 := by
  refine vM.of (by decide) rfl (Nat.le_of_ble_eq_true rfl) ?_
  intro p e s m args below meth c D dA C hin2
  refine (?_ : vO p l e (vR 1 0 0) s m args below meth c D dA (vA h0 z0) 3 False (fun r : (Hp × Int32) => MQ below (vQc False h0 z0 D dA r.1 z0 (some (.int r.2))) args s 0 0 (vAr False h0 z0)) 0 0 h0 z0 [(0, .ref a0), (1, .int p1)] 0 [] (FM_limit h0 a0 p1)) r hr
  obtain ⟨Q, hQ⟩ : ∃ Q : (Hp × Int32) → State → Prop, Q = (fun r : (Hp × Int32) => MQ below (vQc False h0 z0 D dA r.1 z0 (some (.int r.2))) args s 0 0 (vAr False h0 z0)) := ⟨_, rfl⟩
  rw [← hQ]
  unfold FM_limit
  refine v_aload_n C dM_limit_0 rfl 0 rfl ?_
  refine v_iconst (v := 0) C dM_limit_1 (by decide) ?_
  refine v_put C v_cl5 (by decide) in_5 ty_5 ty_5_ok nm_5 rfl w_629 rfl (ty := .int) (by decide +kernel) rfl rfl dM_limit_2 (fun h1 => ?_)
  refine v_iload_n C dM_limit_5 rfl 1 rfl ?_
  refine v_bipush (v := 8) C dM_limit_6 (by decide) ?_
  refine v_ldc (v := 100000) C w_703 dM_limit_8 ?_
  refine v_bind fun r2 hr2 => ?_
  refine v_callS0 (N := 3) (As := [.int p1, .int 8, .int 100000]) (st := []) C (fun _ => trivial) (mM_isIn l h1 z0 p1 8 100000 r2 hr2) rfl w_698 w_53 (by decide +kernel) ⟨Nat.le_of_ble_eq_true rfl, Nat.le_of_ble_eq_true rfl⟩ rfl rfl (Nat.le_of_ble_eq_true rfl) ⟨Nat.zero_le _, Nat.zero_le _⟩ w_696 w_697 dM_limit_10 ?_
  refine v_if_ne (tgt := 19) C dM_limit_13 (by decide) ?_ ?_
  · refine v_aload_n C dM_limit_19 rfl 0 rfl ?_
    refine v_getI C v_cl5 (by decide) in_5 rfl w_611 dM_limit_20 (fun x3 => ?_)
    refine v_istore_n (lv' := [(0, .ref a0), (1, .int p1), (2, .int x3)]) C dM_limit_23 rfl (by decide) [1, 2, 0] rfl ?_
    refine v_aload_n C dM_limit_24 rfl 0 rfl ?_
    refine v_iload_n C dM_limit_25 rfl 1 rfl ?_
    refine v_put C v_cl5 (by decide) in_5 ty_5 ty_5_ok nm_5 rfl w_611 rfl (ty := .int) (by decide +kernel) rfl rfl dM_limit_26 (fun h4 => ?_)
    refine v_iload_n C dM_limit_29 rfl 2 rfl ?_
    exact v_iret C dM_limit_30 (by rw [hQ])
  · refine v_bipush (v := (-3)) C dM_limit_16 (by decide) ?_
    exact v_iret C dM_limit_18 (by rw [hQ])
theorem dM_put_0 : decode prog_7_method_24_code 0 = .ok (.aload_n 0, 1) := by decide +kernel
theorem dM_put_1 : decode prog_7_method_24_code 1 = .ok (.iconst 0, 1) := by decide +kernel
theorem dM_put_2 : decode prog_7_method_24_code 2 = .ok (.putfield 73, 3) := by decide +kernel
theorem dM_put_5 : decode prog_7_method_24_code 5 = .ok (.iload_n 1, 1) := by decide +kernel
theorem dM_put_6 : decode prog_7_method_24_code 6 = .ok (.iconst 0, 1) := by decide +kernel
theorem dM_put_7 : decode prog_7_method_24_code 7 = .ok (.iconst 3, 1) := by decide +kernel
theorem dM_put_8 : decode prog_7_method_24_code 8 = .ok (.invokestatic 76, 3) := by decide +kernel
theorem dM_put_11 : decode prog_7_method_24_code 11 = .ok (.ifCond .ne 6, 3) := by decide +kernel
theorem dM_put_14 : decode prog_7_method_24_code 14 = .ok (.bipush (-2), 2) := by decide +kernel
theorem dM_put_16 : decode prog_7_method_24_code 16 = .ok (.ireturn, 1) := by decide +kernel
theorem dM_put_17 : decode prog_7_method_24_code 17 = .ok (.iload_n 2, 1) := by decide +kernel
theorem dM_put_18 : decode prog_7_method_24_code 18 = .ok (.iconst 0, 1) := by decide +kernel
theorem dM_put_19 : decode prog_7_method_24_code 19 = .ok (.aload_n 0, 1) := by decide +kernel
theorem dM_put_20 : decode prog_7_method_24_code 20 = .ok (.getfield 56, 3) := by decide +kernel
theorem dM_put_23 : decode prog_7_method_24_code 23 = .ok (.iconst 1, 1) := by decide +kernel
theorem dM_put_24 : decode prog_7_method_24_code 24 = .ok (.isub, 1) := by decide +kernel
theorem dM_put_25 : decode prog_7_method_24_code 25 = .ok (.invokestatic 76, 3) := by decide +kernel
theorem dM_put_28 : decode prog_7_method_24_code 28 = .ok (.ifCond .ne 6, 3) := by decide +kernel
theorem dM_put_31 : decode prog_7_method_24_code 31 = .ok (.bipush (-3), 2) := by decide +kernel
theorem dM_put_33 : decode prog_7_method_24_code 33 = .ok (.ireturn, 1) := by decide +kernel
theorem dM_put_34 : decode prog_7_method_24_code 34 = .ok (.aload_n 0, 1) := by decide +kernel
theorem dM_put_35 : decode prog_7_method_24_code 35 = .ok (.iload_n 1, 1) := by decide +kernel
theorem dM_put_36 : decode prog_7_method_24_code 36 = .ok (.iload_n 2, 1) := by decide +kernel
theorem dM_put_37 : decode prog_7_method_24_code 37 = .ok (.invokevirtual 129, 3) := by decide +kernel
theorem dM_put_40 : decode prog_7_method_24_code 40 = .ok (.aload_n 0, 1) := by decide +kernel
theorem dM_put_41 : decode prog_7_method_24_code 41 = .ok (.getfield 132, 3) := by decide +kernel
theorem dM_put_44 : decode prog_7_method_24_code 44 = .ok (.aload_n 0, 1) := by decide +kernel
theorem dM_put_45 : decode prog_7_method_24_code 45 = .ok (.getfield 114, 3) := by decide +kernel
theorem dM_put_48 : decode prog_7_method_24_code 48 = .ok (.iadd, 1) := by decide +kernel
theorem dM_put_49 : decode prog_7_method_24_code 49 = .ok (.sipush 1000, 3) := by decide +kernel
theorem dM_put_52 : decode prog_7_method_24_code 52 = .ok (.if_icmp .le 6, 3) := by decide +kernel
theorem dM_put_55 : decode prog_7_method_24_code 55 = .ok (.bipush (-5), 2) := by decide +kernel
theorem dM_put_57 : decode prog_7_method_24_code 57 = .ok (.ireturn, 1) := by decide +kernel
theorem dM_put_58 : decode prog_7_method_24_code 58 = .ok (.aload_n 0, 1) := by decide +kernel
theorem dM_put_59 : decode prog_7_method_24_code 59 = .ok (.getfield 114, 3) := by decide +kernel
theorem dM_put_62 : decode prog_7_method_24_code 62 = .ok (.iconst 1, 1) := by decide +kernel
theorem dM_put_63 : decode prog_7_method_24_code 63 = .ok (.isub, 1) := by decide +kernel
theorem dM_put_64 : decode prog_7_method_24_code 64 = .ok (.istore_n 3, 1) := by decide +kernel
theorem dM_put_65 : decode prog_7_method_24_code 65 = .ok (.iload_n 3, 1) := by decide +kernel
theorem dM_put_66 : decode prog_7_method_24_code 66 = .ok (.ifCond .lt 34, 3) := by decide +kernel
theorem dM_put_69 : decode prog_7_method_24_code 69 = .ok (.aload_n 0, 1) := by decide +kernel
theorem dM_put_70 : decode prog_7_method_24_code 70 = .ok (.getfield 41, 3) := by decide +kernel
theorem dM_put_73 : decode prog_7_method_24_code 73 = .ok (.aload_n 0, 1) := by decide +kernel
theorem dM_put_74 : decode prog_7_method_24_code 74 = .ok (.getfield 132, 3) := by decide +kernel
theorem dM_put_77 : decode prog_7_method_24_code 77 = .ok (.aload_n 0, 1) := by decide +kernel
theorem dM_put_78 : decode prog_7_method_24_code 78 = .ok (.getfield 53, 3) := by decide +kernel
theorem dM_put_81 : decode prog_7_method_24_code 81 = .ok (.iload_n 3, 1) := by decide +kernel
theorem dM_put_82 : decode prog_7_method_24_code 82 = .ok (.baload, 1) := by decide +kernel
theorem dM_put_83 : decode prog_7_method_24_code 83 = .ok (.bastore, 1) := by decide +kernel
theorem dM_put_84 : decode prog_7_method_24_code 84 = .ok (.aload_n 0, 1) := by decide +kernel
theorem dM_put_85 : decode prog_7_method_24_code 85 = .ok (.dup, 1) := by decide +kernel
theorem dM_put_86 : decode prog_7_method_24_code 86 = .ok (.getfield 132, 3) := by decide +kernel
theorem dM_put_89 : decode prog_7_method_24_code 89 = .ok (.iconst 1, 1) := by decide +kernel
theorem dM_put_90 : decode prog_7_method_24_code 90 = .ok (.iadd, 1) := by decide +kernel
theorem dM_put_91 : decode prog_7_method_24_code 91 = .ok (.putfield 132, 3) := by decide +kernel
theorem dM_put_94 : decode prog_7_method_24_code 94 = .ok (.iinc 3 (-1), 3) := by decide +kernel
theorem dM_put_97 : decode prog_7_method_24_code 97 = .ok (.goto (-32), 3) := by decide +kernel
theorem dM_put_100 : decode prog_7_method_24_code 100 = .ok (.aload_n 0, 1) := by decide +kernel
theorem dM_put_101 : decode prog_7_method_24_code 101 = .ok (.iload_n 1, 1) := by decide +kernel
theorem dM_put_102 : decode prog_7_method_24_code 102 = .ok (.iload_n 2, 1) := by decide +kernel
theorem dM_put_103 : decode prog_7_method_24_code 103 = .ok (.invokevirtual 135, 3) := by decide +kernel
theorem dM_put_106 : decode prog_7_method_24_code 106 = .ok (.aload_n 0, 1) := by decide +kernel
theorem dM_put_107 : decode prog_7_method_24_code 107 = .ok (.getfield 114, 3) := by decide +kernel
theorem dM_put_110 : decode prog_7_method_24_code 110 = .ok (.ireturn, 1) := by decide +kernel
def LM_put_65 (a0 : Nat) (K11 : Hp → Option (Hp × Int32)) (rec17 : Hp → Int32 → Option (Hp × Int32)) (h15 : Hp) (x16 : Int32) : Option (Hp × Int32) :=
  if x16 < 0 then
    (K11 h15)
  else
    (gR h15 a0 5 14 (fun a18 =>
    gI h15 a0 5 13 (fun x19 =>
    gR h15 a0 5 24 (fun a20 =>
    ldI h15 a20 1 x16 (fun x21 =>
    stI h15 a18 1 x19 (vp_nar .boolean x21) (fun h22 =>
    gI h22 a0 5 13 (fun x23 =>
    pF h22 a0 5 13 (.int (x23 + 1)) (fun h24 =>
    rec17 h24 (x16 + (-1))))))))))
def FM_put (h0 : Hp) (a0 : Nat) (p1 : Int32) (p2 : Int32) : Option (Hp × Int32) :=
  pF h0 a0 5 20 (.int 0) (fun h1 =>
  (FM_isIn h1 p1 0 3).bind (fun r2 =>
  if r2 = 0 then
    (some (h1, (-2)))
  else
    (gI h1 a0 5 0 (fun x3 =>
    (FM_isIn h1 p2 0 (x3 - 1)).bind (fun r4 =>
    if r4 = 0 then
      (some (h1, (-3)))
    else
      (gd (isO h1 a0 5 = true) ((FM_find h1 a0 p1 p2).bind (fun r6 =>
      gI r6 a0 5 13 (fun x7 =>
      gI r6 a0 5 25 (fun x8 =>
      if (x7 + x8) ≤ 1000 then
        (gI r6 a0 5 25 (fun x9 =>
        jn (fun (h10 : Hp) =>
        gd (isO h10 a0 5 = true) ((FM_steps h10 a0 p1 p2).bind (fun r13 =>
        gI r13 a0 5 25 (fun x14 =>
        some (r13, x14)))))
        (fun (K11 : Hp → Option (Hp × Int32)) =>
        lpG (fun _ _ => none) fu (LM_put_65 a0 K11) r6 (x9 - 1))))
      else
        (some (r6, (-5)))))))))))))
set_option maxRecDepth 100000 in
set_option maxHeartbeats 4000000 in
theorem mM_put (l : Launch) (h0 : Hp) (z0 : Nat) (a0 : Nat) (p1 : Int32) (p2 : Int32) (r : (Hp × Int32)) (hr : FM_put h0 a0 p1 p2 = some r) : vM False l yM_put (Cond.code yM_put prog_7_method_24_code 4 (some (.int)) :: gW) 4 [.ref a0, .int p1, .int p2] h0 z0 r.1 z0 (some (.int r.2)) 0 0 := by
  refine vM.of (by decide) rfl (Nat.le_of_ble_eq_true rfl) ?_
  intro p e s m args below meth c D dA C hin2
  refine (?_ : vO p l e (vR 4 0 0) s m args below meth c D dA (vA h0 z0) 4 False (fun r : (Hp × Int32) => MQ below (vQc False h0 z0 D dA r.1 z0 (some (.int r.2))) args s 0 0 (vAr False h0 z0)) 0 0 h0 z0 [(0, .ref a0), (1, .int p1), (2, .int p2)] 0 [] (FM_put h0 a0 p1 p2)) r hr
  obtain ⟨Q, hQ⟩ : ∃ Q : (Hp × Int32) → State → Prop, Q = (fun r : (Hp × Int32) => MQ below (vQc False h0 z0 D dA r.1 z0 (some (.int r.2))) args s 0 0 (vAr False h0 z0)) := ⟨_, rfl⟩
  rw [← hQ]
  unfold FM_put
  refine v_aload_n C dM_put_0 rfl 0 rfl ?_
  refine v_iconst (v := 0) C dM_put_1 (by decide) ?_
  refine v_put C v_cl5 (by decide) in_5 ty_5 ty_5_ok nm_5 rfl w_629 rfl (ty := .int) (by decide +kernel) rfl rfl dM_put_2 (fun h1 => ?_)
  refine v_iload_n C dM_put_5 rfl 1 rfl ?_
  refine v_iconst (v := 0) C dM_put_6 (by decide) ?_
  refine v_iconst (v := 3) C dM_put_7 (by decide) ?_
  refine v_bind fun r2 hr2 => ?_
  refine v_callS0 (N := 3) (As := [.int p1, .int 0, .int 3]) (st := []) C (fun _ => trivial) (mM_isIn l h1 z0 p1 0 3 r2 hr2) rfl w_698 w_53 (by decide +kernel) ⟨Nat.le_of_ble_eq_true rfl, Nat.le_of_ble_eq_true rfl⟩ rfl rfl (Nat.le_of_ble_eq_true rfl) ⟨Nat.zero_le _, Nat.zero_le _⟩ w_696 w_697 dM_put_8 ?_
  refine v_if_ne (tgt := 17) C dM_put_11 (by decide) ?_ ?_
  · refine v_iload_n C dM_put_17 rfl 2 rfl ?_
    refine v_iconst (v := 0) C dM_put_18 (by decide) ?_
    refine v_aload_n C dM_put_19 rfl 0 rfl ?_
    refine v_getI C v_cl5 (by decide) in_5 rfl w_609 dM_put_20 (fun x3 => ?_)
    refine v_iconst (v := 1) C dM_put_23 (by decide) ?_
    refine v_isub C dM_put_24 ?_
    refine v_bind fun r4 hr4 => ?_
    refine v_callS0 (N := 3) (As := [.int p2, .int 0, .int (x3 - 1)]) (st := []) C (fun _ => trivial) (mM_isIn l h1 z0 p2 0 (x3 - 1) r4 hr4) rfl w_698 w_53 (by decide +kernel) ⟨Nat.le_of_ble_eq_true rfl, Nat.le_of_ble_eq_true rfl⟩ rfl rfl (Nat.le_of_ble_eq_true rfl) ⟨Nat.zero_le _, Nat.zero_le _⟩ w_696 w_697 dM_put_25 ?_
    refine v_if_ne (tgt := 34) C dM_put_28 (by decide) ?_ ?_
    · refine v_aload_n C dM_put_34 rfl 0 rfl ?_
      refine v_iload_n C dM_put_35 rfl 1 rfl ?_
      refine v_iload_n C dM_put_36 rfl 2 rfl ?_
      refine v_gd fun hO5 => ?_
      refine v_bind fun r6 hr6 => ?_
      refine v_callV0 (N := 2) (As := [.int p1, .int p2]) (st := []) C (fun f => f.elim) (mM_find l h1 z0 a0 p1 p2 r6 hr6) rfl w_711 w_53 (by decide +kernel) ⟨Nat.le_of_ble_eq_true rfl, Nat.le_of_ble_eq_true rfl⟩ rfl rfl (Nat.le_of_ble_eq_true rfl) ⟨Nat.zero_le _, Nat.zero_le _⟩ w_708 w_710 w_25 v_cl5 rfl hO5 dM_put_37 ?_
      refine v_aload_n C dM_put_40 rfl 0 rfl ?_
      refine v_getI C v_cl5 (by decide) in_5 rfl w_622 dM_put_41 (fun x7 => ?_)
      refine v_aload_n C dM_put_44 rfl 0 rfl ?_
      refine v_getI C v_cl5 (by decide) in_5 rfl w_634 dM_put_45 (fun x8 => ?_)
      refine v_iadd C dM_put_48 ?_
      refine v_sipush (v := 1000) C dM_put_49 (by decide) ?_
      refine v_icmp_le (tgt := 58) C dM_put_52 (by decide) ?_ ?_
      · refine v_aload_n C dM_put_58 rfl 0 rfl ?_
        refine v_getI C v_cl5 (by decide) in_5 rfl w_634 dM_put_59 (fun x9 => ?_)
        refine v_iconst (v := 1) C dM_put_62 (by decide) ?_
        refine v_isub C dM_put_63 ?_
        refine v_istore_n (lv' := [(0, .ref a0), (1, .int p1), (2, .int p2), (3, .int (x9 - 1))]) C dM_put_64 rfl (by decide) [1, 2, 3, 0] rfl ?_
        refine v_jn (fun (j : Hp → Option (Hp × Int32)) => ∀ (h10 : Hp), vO p l e (vR 4 0 0) s m args below meth c D dA (vA h0 z0) 4 False Q 0 0 h10 z0 [(0, .ref a0), (1, .int p1), (2, .int p2)] 100 [] (j h10)) ?_ (fun K11 HK11 => ?_)
        · intro h10
          refine v_aload_n C dM_put_100 rfl 0 rfl ?_
          refine v_iload_n C dM_put_101 rfl 1 rfl ?_
          refine v_iload_n C dM_put_102 rfl 2 rfl ?_
          refine v_gd fun hO12 => ?_
          refine v_bind fun r13 hr13 => ?_
          refine v_callV0 (N := 2) (As := [.int p1, .int p2]) (st := []) C (fun f => f.elim) (mM_steps l h10 z0 a0 p1 p2 r13 hr13) rfl w_739 w_53 (by decide +kernel) ⟨Nat.le_of_ble_eq_true rfl, Nat.le_of_ble_eq_true rfl⟩ rfl rfl (Nat.le_of_ble_eq_true rfl) ⟨Nat.zero_le _, Nat.zero_le _⟩ w_736 w_738 w_32 v_cl5 rfl hO12 dM_put_103 ?_
          refine v_aload_n C dM_put_106 rfl 0 rfl ?_
          refine v_getI C v_cl5 (by decide) in_5 rfl w_634 dM_put_107 (fun x14 => ?_)
          exact v_iret C dM_put_110 (by rw [hQ])
        · refine lpG_ind (bot := (fun _ _ => none)) (B := LM_put_65 a0 K11) (fun (r : Hp → Int32 → Option (Hp × Int32)) => ∀ (h15 : Hp), ∀ (x16 : Int32), vO p l e (vR 4 0 0) s m args below meth c D dA (vA h0 z0) 4 False Q 0 0 h15 z0 [(0, .ref a0), (1, .int p1), (2, .int p2), (3, .int x16)] 65 [] (r h15 x16)) ?_ ?_ fu r6 (x9 - 1)
          · intro h15 x16
            exact v_none
          · intro rec17 Hrec17 h15 x16
            unfold LM_put_65
            refine v_iload_n C dM_put_65 rfl 3 rfl ?_
            refine v_if_lt (tgt := 100) C dM_put_66 (by decide) ?_ ?_
            · refine v_lv (lv' := [(0, .ref a0), (1, .int p1), (2, .int p2)]) [0, 1, 2] rfl ?_
              exact HK11 h15
            · refine v_aload_n C dM_put_69 rfl 0 rfl ?_
              refine v_getR C v_cl5 (by decide) in_5 rfl w_623 dM_put_70 (fun a18 => ?_)
              refine v_aload_n C dM_put_73 rfl 0 rfl ?_
              refine v_getI C v_cl5 (by decide) in_5 rfl w_622 dM_put_74 (fun x19 => ?_)
              refine v_aload_n C dM_put_77 rfl 0 rfl ?_
              refine v_getR C v_cl5 (by decide) in_5 rfl w_633 dM_put_78 (fun a20 => ?_)
              refine v_iload_n C dM_put_81 rfl 3 rfl ?_
              refine v_zald C rfl dM_put_82 (fun x21 => ?_)
              refine v_zast C rfl dM_put_83 (fun h22 => ?_)
              refine v_aload_n C dM_put_84 rfl 0 rfl ?_
              refine v_dup C dM_put_85 rfl ?_
              refine v_getI C v_cl5 (by decide) in_5 rfl w_622 dM_put_86 (fun x23 => ?_)
              refine v_iconst (v := 1) C dM_put_89 (by decide) ?_
              refine v_iadd C dM_put_90 ?_
              refine v_put C v_cl5 (by decide) in_5 ty_5 ty_5_ok nm_5 rfl w_622 rfl (ty := .int) (by decide +kernel) rfl rfl dM_put_91 (fun h24 => ?_)
              refine v_iinc (v := (x16 + (-1))) (lv' := [(0, .ref a0), (1, .int p1), (2, .int p2), (3, .int (x16 + (-1)))]) C dM_put_94 3 rfl rfl (by decide) [1, 2, 3, 0] rfl ?_
              refine v_goto (tgt := 65) C dM_put_97 (by decide) ?_
              exact Hrec17 h24 (x16 + (-1))
      · refine v_bipush (v := (-5)) C dM_put_55 (by decide) ?_
        exact v_iret C dM_put_57 (by rw [hQ])
    · refine v_bipush (v := (-3)) C dM_put_31 (by decide) ?_
      exact v_iret C dM_put_33 (by rw [hQ])
  · refine v_bipush (v := (-2)) C dM_put_14 (by decide) ?_
    exact v_iret C dM_put_16 (by rw [hQ])
theorem dM_bits_0 : decode prog_7_method_25_code 0 = .ok (.aload_n 0, 1) := by decide +kernel
theorem dM_bits_1 : decode prog_7_method_25_code 1 = .ok (.iconst 0, 1) := by decide +kernel
theorem dM_bits_2 : decode prog_7_method_25_code 2 = .ok (.putfield 73, 3) := by decide +kernel
theorem dM_bits_5 : decode prog_7_method_25_code 5 = .ok (.aload_n 0, 1) := by decide +kernel
theorem dM_bits_6 : decode prog_7_method_25_code 6 = .ok (.getfield 132, 3) := by decide +kernel
theorem dM_bits_9 : decode prog_7_method_25_code 9 = .ok (.ireturn, 1) := by decide +kernel
def FM_bits (h0 : Hp) (a0 : Nat) : Option (Hp × Int32) :=
  pF h0 a0 5 20 (.int 0) (fun h1 =>
  gI h1 a0 5 13 (fun x2 =>
  some (h1, x2)))
set_option maxRecDepth 100000 in
set_option maxHeartbeats 4000000 in
theorem mM_bits (l : Launch) (h0 : Hp) (z0 : Nat) (a0 : Nat) (r : (Hp × Int32)) (hr : FM_bits h0 a0 = some r) : vM False l yM_bits (Cond.code yM_bits prog_7_method_25_code 1 (some (.int)) :: gW) 0 [.ref a0] h0 z0 r.1 z0 (some (.int r.2)) 0 0 := by
  refine vM.of (by decide) rfl (Nat.le_of_ble_eq_true rfl) ?_
  intro p e s m args below meth c D dA C hin2
  refine (?_ : vO p l e (vR 0 0 0) s m args below meth c D dA (vA h0 z0) 1 False (fun r : (Hp × Int32) => MQ below (vQc False h0 z0 D dA r.1 z0 (some (.int r.2))) args s 0 0 (vAr False h0 z0)) 0 0 h0 z0 [(0, .ref a0)] 0 [] (FM_bits h0 a0)) r hr
  obtain ⟨Q, hQ⟩ : ∃ Q : (Hp × Int32) → State → Prop, Q = (fun r : (Hp × Int32) => MQ below (vQc False h0 z0 D dA r.1 z0 (some (.int r.2))) args s 0 0 (vAr False h0 z0)) := ⟨_, rfl⟩
  rw [← hQ]
  unfold FM_bits
  refine v_aload_n C dM_bits_0 rfl 0 rfl ?_
  refine v_iconst (v := 0) C dM_bits_1 (by decide) ?_
  refine v_put C v_cl5 (by decide) in_5 ty_5 ty_5_ok nm_5 rfl w_629 rfl (ty := .int) (by decide +kernel) rfl rfl dM_bits_2 (fun h1 => ?_)
  refine v_aload_n C dM_bits_5 rfl 0 rfl ?_
  refine v_getI C v_cl5 (by decide) in_5 rfl w_622 dM_bits_6 (fun x2 => ?_)
  exact v_iret C dM_bits_9 (by rw [hQ])
theorem dM_bit_0 : decode prog_7_method_26_code 0 = .ok (.aload_n 0, 1) := by decide +kernel
theorem dM_bit_1 : decode prog_7_method_26_code 1 = .ok (.iconst 0, 1) := by decide +kernel
theorem dM_bit_2 : decode prog_7_method_26_code 2 = .ok (.putfield 73, 3) := by decide +kernel
theorem dM_bit_5 : decode prog_7_method_26_code 5 = .ok (.iload_n 1, 1) := by decide +kernel
theorem dM_bit_6 : decode prog_7_method_26_code 6 = .ok (.iconst 0, 1) := by decide +kernel
theorem dM_bit_7 : decode prog_7_method_26_code 7 = .ok (.aload_n 0, 1) := by decide +kernel
theorem dM_bit_8 : decode prog_7_method_26_code 8 = .ok (.getfield 132, 3) := by decide +kernel
theorem dM_bit_11 : decode prog_7_method_26_code 11 = .ok (.iconst 1, 1) := by decide +kernel
theorem dM_bit_12 : decode prog_7_method_26_code 12 = .ok (.isub, 1) := by decide +kernel
theorem dM_bit_13 : decode prog_7_method_26_code 13 = .ok (.invokestatic 76, 3) := by decide +kernel
theorem dM_bit_16 : decode prog_7_method_26_code 16 = .ok (.ifCond .ne 7, 3) := by decide +kernel
theorem dM_bit_19 : decode prog_7_method_26_code 19 = .ok (.iconst (-1), 1) := by decide +kernel
theorem dM_bit_20 : decode prog_7_method_26_code 20 = .ok (.goto 17, 3) := by decide +kernel
theorem dM_bit_23 : decode prog_7_method_26_code 23 = .ok (.aload_n 0, 1) := by decide +kernel
theorem dM_bit_24 : decode prog_7_method_26_code 24 = .ok (.getfield 41, 3) := by decide +kernel
theorem dM_bit_27 : decode prog_7_method_26_code 27 = .ok (.iload_n 1, 1) := by decide +kernel
theorem dM_bit_28 : decode prog_7_method_26_code 28 = .ok (.baload, 1) := by decide +kernel
theorem dM_bit_29 : decode prog_7_method_26_code 29 = .ok (.ifCond .eq 7, 3) := by decide +kernel
theorem dM_bit_32 : decode prog_7_method_26_code 32 = .ok (.iconst 1, 1) := by decide +kernel
theorem dM_bit_33 : decode prog_7_method_26_code 33 = .ok (.goto 4, 3) := by decide +kernel
theorem dM_bit_36 : decode prog_7_method_26_code 36 = .ok (.iconst 0, 1) := by decide +kernel
theorem dM_bit_37 : decode prog_7_method_26_code 37 = .ok (.ireturn, 1) := by decide +kernel
def FM_bit (h0 : Hp) (a0 : Nat) (p1 : Int32) : Option (Hp × Int32) :=
  pF h0 a0 5 20 (.int 0) (fun h1 =>
  gI h1 a0 5 13 (fun x2 =>
  (FM_isIn h1 p1 0 (x2 - 1)).bind (fun r3 =>
  jn (fun (y4 : Int32) =>
  some (h1, y4))
  (fun (j5 : Int32 → Option (Hp × Int32)) =>
  if r3 = 0 then
    (j5 (-1))
  else
    (gR h1 a0 5 14 (fun a6 =>
    ldI h1 a6 1 p1 (fun x7 =>
    if x7 = 0 then
      (j5 0)
    else
      (j5 1))))))))
set_option maxRecDepth 100000 in
set_option maxHeartbeats 4000000 in
theorem mM_bit (l : Launch) (h0 : Hp) (z0 : Nat) (a0 : Nat) (p1 : Int32) (r : (Hp × Int32)) (hr : FM_bit h0 a0 p1 = some r) : vM False l yM_bit (Cond.code yM_bit prog_7_method_26_code 2 (some (.int)) :: gW) 1 [.ref a0, .int p1] h0 z0 r.1 z0 (some (.int r.2)) 0 0 := by
  refine vM.of (by decide) rfl (Nat.le_of_ble_eq_true rfl) ?_
  intro p e s m args below meth c D dA C hin2
  refine (?_ : vO p l e (vR 1 0 0) s m args below meth c D dA (vA h0 z0) 2 False (fun r : (Hp × Int32) => MQ below (vQc False h0 z0 D dA r.1 z0 (some (.int r.2))) args s 0 0 (vAr False h0 z0)) 0 0 h0 z0 [(0, .ref a0), (1, .int p1)] 0 [] (FM_bit h0 a0 p1)) r hr
  obtain ⟨Q, hQ⟩ : ∃ Q : (Hp × Int32) → State → Prop, Q = (fun r : (Hp × Int32) => MQ below (vQc False h0 z0 D dA r.1 z0 (some (.int r.2))) args s 0 0 (vAr False h0 z0)) := ⟨_, rfl⟩
  rw [← hQ]
  unfold FM_bit
  refine v_aload_n C dM_bit_0 rfl 0 rfl ?_
  refine v_iconst (v := 0) C dM_bit_1 (by decide) ?_
  refine v_put C v_cl5 (by decide) in_5 ty_5 ty_5_ok nm_5 rfl w_629 rfl (ty := .int) (by decide +kernel) rfl rfl dM_bit_2 (fun h1 => ?_)
  refine v_iload_n C dM_bit_5 rfl 1 rfl ?_
  refine v_iconst (v := 0) C dM_bit_6 (by decide) ?_
  refine v_aload_n C dM_bit_7 rfl 0 rfl ?_
  refine v_getI C v_cl5 (by decide) in_5 rfl w_622 dM_bit_8 (fun x2 => ?_)
  refine v_iconst (v := 1) C dM_bit_11 (by decide) ?_
  refine v_isub C dM_bit_12 ?_
  refine v_bind fun r3 hr3 => ?_
  refine v_callS0 (N := 3) (As := [.int p1, .int 0, .int (x2 - 1)]) (st := []) C (fun _ => trivial) (mM_isIn l h1 z0 p1 0 (x2 - 1) r3 hr3) rfl w_698 w_53 (by decide +kernel) ⟨Nat.le_of_ble_eq_true rfl, Nat.le_of_ble_eq_true rfl⟩ rfl rfl (Nat.le_of_ble_eq_true rfl) ⟨Nat.zero_le _, Nat.zero_le _⟩ w_696 w_697 dM_bit_13 ?_
  refine v_jn (fun (j : Int32 → Option (Hp × Int32)) => ∀ (y4 : Int32), vO p l e (vR 1 0 0) s m args below meth c D dA (vA h0 z0) 2 False Q 0 0 h1 z0 [] 37 [.int y4] (j y4)) ?_ (fun j5 Hj5 => ?_)
  · intro y4
    exact v_iret C dM_bit_37 (by rw [hQ])
  · refine v_if_ne (tgt := 23) C dM_bit_16 (by decide) ?_ ?_
    · refine v_aload_n C dM_bit_23 rfl 0 rfl ?_
      refine v_getR C v_cl5 (by decide) in_5 rfl w_623 dM_bit_24 (fun a6 => ?_)
      refine v_iload_n C dM_bit_27 rfl 1 rfl ?_
      refine v_zald C rfl dM_bit_28 (fun x7 => ?_)
      refine v_if_eq (tgt := 36) C dM_bit_29 (by decide) ?_ ?_
      · refine v_iconst (v := 0) C dM_bit_36 (by decide) ?_
        refine v_lv (lv' := []) [] rfl ?_
        exact Hj5 0
      · refine v_iconst (v := 1) C dM_bit_32 (by decide) ?_
        refine v_goto (tgt := 37) C dM_bit_33 (by decide) ?_
        refine v_lv (lv' := []) [] rfl ?_
        exact Hj5 1
    · refine v_iconst (v := (-1)) C dM_bit_19 (by decide) ?_
      refine v_goto (tgt := 37) C dM_bit_20 (by decide) ?_
      refine v_lv (lv' := []) [] rfl ?_
      exact Hj5 (-1)
