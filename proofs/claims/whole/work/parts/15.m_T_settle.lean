theorem dT_settle_0 : decode prog_5_method_22_code 0 = .ok (.aload_n 0, 1) := by decide +kernel
theorem dT_settle_1 : decode prog_5_method_22_code 1 = .ok (.getfield 27, 3) := by decide +kernel
theorem dT_settle_4 : decode prog_5_method_22_code 4 = .ok (.iload_n 1, 1) := by decide +kernel
theorem dT_settle_5 : decode prog_5_method_22_code 5 = .ok (.invokevirtual 129, 3) := by decide +kernel
theorem dT_settle_8 : decode prog_5_method_22_code 8 = .ok (.ifCond .ne 4, 3) := by decide +kernel
theorem dT_settle_11 : decode prog_5_method_22_code 11 = .ok (.return_, 1) := by decide +kernel
theorem dT_settle_12 : decode prog_5_method_22_code 12 = .ok (.aload_n 0, 1) := by decide +kernel
theorem dT_settle_13 : decode prog_5_method_22_code 13 = .ok (.getfield 27, 3) := by decide +kernel
theorem dT_settle_16 : decode prog_5_method_22_code 16 = .ok (.getfield 132, 3) := by decide +kernel
theorem dT_settle_19 : decode prog_5_method_22_code 19 = .ok (.iload_n 1, 1) := by decide +kernel
theorem dT_settle_20 : decode prog_5_method_22_code 20 = .ok (.iaload, 1) := by decide +kernel
theorem dT_settle_21 : decode prog_5_method_22_code 21 = .ok (.istore_n 3, 1) := by decide +kernel
theorem dT_settle_22 : decode prog_5_method_22_code 22 = .ok (.aload_n 0, 1) := by decide +kernel
theorem dT_settle_23 : decode prog_5_method_22_code 23 = .ok (.iload_n 2, 1) := by decide +kernel
theorem dT_settle_24 : decode prog_5_method_22_code 24 = .ok (.aload_n 0, 1) := by decide +kernel
theorem dT_settle_25 : decode prog_5_method_22_code 25 = .ok (.getfield 27, 3) := by decide +kernel
theorem dT_settle_28 : decode prog_5_method_22_code 28 = .ok (.getfield 133, 3) := by decide +kernel
theorem dT_settle_31 : decode prog_5_method_22_code 31 = .ok (.iload_n 1, 1) := by decide +kernel
theorem dT_settle_32 : decode prog_5_method_22_code 32 = .ok (.iaload, 1) := by decide +kernel
theorem dT_settle_33 : decode prog_5_method_22_code 33 = .ok (.aload_n 0, 1) := by decide +kernel
theorem dT_settle_34 : decode prog_5_method_22_code 34 = .ok (.getfield 27, 3) := by decide +kernel
theorem dT_settle_37 : decode prog_5_method_22_code 37 = .ok (.getfield 134, 3) := by decide +kernel
theorem dT_settle_40 : decode prog_5_method_22_code 40 = .ok (.iload_n 1, 1) := by decide +kernel
theorem dT_settle_41 : decode prog_5_method_22_code 41 = .ok (.iaload, 1) := by decide +kernel
theorem dT_settle_42 : decode prog_5_method_22_code 42 = .ok (.iload_n 3, 1) := by decide +kernel
theorem dT_settle_43 : decode prog_5_method_22_code 43 = .ok (.iload_n 3, 1) := by decide +kernel
theorem dT_settle_44 : decode prog_5_method_22_code 44 = .ok (.iconst (-1), 1) := by decide +kernel
theorem dT_settle_45 : decode prog_5_method_22_code 45 = .ok (.if_icmp .ne 7, 3) := by decide +kernel
theorem dT_settle_48 : decode prog_5_method_22_code 48 = .ok (.iconst (-1), 1) := by decide +kernel
theorem dT_settle_49 : decode prog_5_method_22_code 49 = .ok (.goto 6, 3) := by decide +kernel
theorem dT_settle_52 : decode prog_5_method_22_code 52 = .ok (.iload_n 3, 1) := by decide +kernel
theorem dT_settle_53 : decode prog_5_method_22_code 53 = .ok (.iconst 1, 1) := by decide +kernel
theorem dT_settle_54 : decode prog_5_method_22_code 54 = .ok (.iadd, 1) := by decide +kernel
theorem dT_settle_55 : decode prog_5_method_22_code 55 = .ok (.invokevirtual 60, 3) := by decide +kernel
theorem dT_settle_58 : decode prog_5_method_22_code 58 = .ok (.return_, 1) := by decide +kernel
def FT_settle (h0 : Hp) (a0 : Nat) (p1 : Int32) (p2 : Int32) : Option Hp :=
  gR h0 a0 3 1 (fun a1 =>
  gd (isO h0 a1 1 = true) ((FP_has h0 a1 p1).bind (fun r3 =>
  if r3 = 0 then
    (some h0)
  else
    (gR h0 a0 3 1 (fun a4 =>
    gR h0 a4 1 2 (fun a5 =>
    ldI h0 a5 0 p1 (fun x6 =>
    gR h0 a0 3 1 (fun a7 =>
    gR h0 a7 1 0 (fun a8 =>
    ldI h0 a8 0 p1 (fun x9 =>
    gR h0 a0 3 1 (fun a10 =>
    gR h0 a10 1 1 (fun a11 =>
    ldI h0 a11 0 p1 (fun x12 =>
    jn (fun (y13 : Int32) (y14 : Int32) (y15 : Int32) (y16 : Int32) (y17 : Int32) (b18 : Nat) =>
    gd (isO h0 b18 3 = true) ((FT_fill h0 b18 y17 y16 y15 y14 y13).bind (fun r21 =>
    some r21)))
    (fun (j19 : Int32 → Int32 → Int32 → Int32 → Int32 → Nat → Option Hp) =>
    if x6 = (-1) then
      (j19 (-1) x6 x12 x9 p2 a0)
    else
      (j19 (x6 + 1) x6 x12 x9 p2 a0)))))))))))))))
set_option maxRecDepth 100000 in
set_option maxHeartbeats 4000000 in
theorem mT_settle (l : Launch) (h0 : Hp) (z0 : Nat) (a0 : Nat) (p1 : Int32) (p2 : Int32) (r : Hp) (hr : FT_settle h0 a0 p1 p2 = some r) : vM False l yT_settle (Cond.code yT_settle prog_5_method_22_code 4 none :: gW) 2 [.ref a0, .int p1, .int p2] h0 z0 r z0 none 0 0 := by
  refine vM.of (by decide) rfl (Nat.le_of_ble_eq_true rfl) ?_
  intro p e s m args below meth c D dA C hin2
  refine (?_ : vO p l e (vR 2 0 0) s m args below meth c D dA (vA h0 z0) 4 False (fun r : Hp => MQ below (vQc False h0 z0 D dA r z0 none) args s 0 0 (vAr False h0 z0)) 0 0 h0 z0 [(0, .ref a0), (1, .int p1), (2, .int p2)] 0 [] (FT_settle h0 a0 p1 p2)) r hr
  obtain ⟨Q, hQ⟩ : ∃ Q : Hp → State → Prop, Q = (fun r : Hp => MQ below (vQc False h0 z0 D dA r z0 none) args s 0 0 (vAr False h0 z0)) := ⟨_, rfl⟩
  rw [← hQ]
  unfold FT_settle
  refine v_aload_n C dT_settle_0 rfl 0 rfl ?_
  refine v_getR C v_cl3 (by decide) in_3 rfl w_161 dT_settle_1 (fun a1 => ?_)
  refine v_iload_n C dT_settle_4 rfl 1 rfl ?_
  refine v_gd fun hO2 => ?_
  refine v_bind fun r3 hr3 => ?_
  refine v_callV0 (N := 1) (As := [.int p1]) (st := []) C (fun _ => trivial) (mP_has l h0 z0 a1 p1 r3 hr3) rfl w_372 w_51 (by decide +kernel) ⟨Nat.le_of_ble_eq_true rfl, Nat.le_of_ble_eq_true rfl⟩ rfl rfl (Nat.le_of_ble_eq_true rfl) ⟨Nat.zero_le _, Nat.zero_le _⟩ w_377 w_370 w_371 v_cl1 rfl hO2 dT_settle_5 ?_
  refine v_if_ne (tgt := 12) C dT_settle_8 (by decide) ?_ ?_
  · refine v_aload_n C dT_settle_12 rfl 0 rfl ?_
    refine v_getR C v_cl3 (by decide) in_3 rfl w_161 dT_settle_13 (fun a4 => ?_)
    refine v_getRN C v_cl1 (by decide) in_1 rfl (nf_9 C.2.2.2.2.2.2.2.2.2) dT_settle_16 (fun a5 => ?_)
    refine v_iload_n C dT_settle_19 rfl 1 rfl ?_
    refine v_iald C rfl dT_settle_20 (fun x6 => ?_)
    refine v_istore_n (lv' := [(0, .ref a0), (1, .int p1), (2, .int p2), (3, .int x6)]) C dT_settle_21 rfl (by decide) [1, 2, 3, 0] rfl ?_
    refine v_aload_n C dT_settle_22 rfl 0 rfl ?_
    refine v_iload_n C dT_settle_23 rfl 2 rfl ?_
    refine v_aload_n C dT_settle_24 rfl 0 rfl ?_
    refine v_getR C v_cl3 (by decide) in_3 rfl w_161 dT_settle_25 (fun a7 => ?_)
    refine v_getRN C v_cl1 (by decide) in_1 rfl (nf_10 C.2.2.2.2.2.2.2.2.2) dT_settle_28 (fun a8 => ?_)
    refine v_iload_n C dT_settle_31 rfl 1 rfl ?_
    refine v_iald C rfl dT_settle_32 (fun x9 => ?_)
    refine v_aload_n C dT_settle_33 rfl 0 rfl ?_
    refine v_getR C v_cl3 (by decide) in_3 rfl w_161 dT_settle_34 (fun a10 => ?_)
    refine v_getRN C v_cl1 (by decide) in_1 rfl (nf_11 C.2.2.2.2.2.2.2.2.2) dT_settle_37 (fun a11 => ?_)
    refine v_iload_n C dT_settle_40 rfl 1 rfl ?_
    refine v_iald C rfl dT_settle_41 (fun x12 => ?_)
    refine v_iload_n C dT_settle_42 rfl 3 rfl ?_
    refine v_iload_n C dT_settle_43 rfl 3 rfl ?_
    refine v_iconst (v := (-1)) C dT_settle_44 (by decide) ?_
    refine v_jn (fun (j : Int32 → Int32 → Int32 → Int32 → Int32 → Nat → Option Hp) => ∀ (y13 : Int32), ∀ (y14 : Int32), ∀ (y15 : Int32), ∀ (y16 : Int32), ∀ (y17 : Int32), ∀ (b18 : Nat), vO p l e (vR 2 0 0) s m args below meth c D dA (vA h0 z0) 4 False Q 0 0 h0 z0 [] 55 [.int y13, .int y14, .int y15, .int y16, .int y17, .ref b18] (j y13 y14 y15 y16 y17 b18)) ?_ (fun j19 Hj19 => ?_)
    · intro y13 y14 y15 y16 y17 b18
      refine v_gd fun hO20 => ?_
      refine v_bind fun r21 hr21 => ?_
      refine v_callV0 (N := 5) (As := [.int y17, .int y16, .int y15, .int y14, .int y13]) (st := []) C (fun f => f.elim) (mT_fill l h0 z0 b18 y17 y16 y15 y14 y13 r21 hr21) rfl w_155 w_52 (by decide +kernel) ⟨Nat.le_of_ble_eq_true rfl, Nat.le_of_ble_eq_true rfl⟩ rfl rfl (Nat.le_of_ble_eq_true rfl) ⟨Nat.zero_le _, Nat.zero_le _⟩ w_152 w_154 w_1 v_cl3 rfl hO20 dT_settle_55 ?_
      exact v_vret C dT_settle_58 (by rw [hQ])
    · refine v_icmp_ne (tgt := 52) C dT_settle_45 (by decide) ?_ ?_
      · refine v_iload_n C dT_settle_52 rfl 3 rfl ?_
        refine v_iconst (v := 1) C dT_settle_53 (by decide) ?_
        refine v_iadd C dT_settle_54 ?_
        refine v_lv (lv' := []) [] rfl ?_
        exact Hj19 (x6 + 1) x6 x12 x9 p2 a0
      · refine v_iconst (v := (-1)) C dT_settle_48 (by decide) ?_
        refine v_goto (tgt := 55) C dT_settle_49 (by decide) ?_
        refine v_lv (lv' := []) [] rfl ?_
        exact Hj19 (-1) x6 x12 x9 p2 a0
  · exact v_vret C dT_settle_11 (by rw [hQ])
theorem dP_joinLastTwo_0 : decode prog_3_method_3_code 0 = .ok (.aload_n 0, 1) := by decide +kernel
theorem dP_joinLastTwo_1 : decode prog_3_method_3_code 1 = .ok (.getfield 9, 3) := by decide +kernel
theorem dP_joinLastTwo_4 : decode prog_3_method_3_code 4 = .ok (.iconst 2, 1) := by decide +kernel
theorem dP_joinLastTwo_5 : decode prog_3_method_3_code 5 = .ok (.if_icmp .lt 15, 3) := by decide +kernel
theorem dP_joinLastTwo_8 : decode prog_3_method_3_code 8 = .ok (.aload_n 0, 1) := by decide +kernel
theorem dP_joinLastTwo_9 : decode prog_3_method_3_code 9 = .ok (.getfield 9, 3) := by decide +kernel
theorem dP_joinLastTwo_12 : decode prog_3_method_3_code 12 = .ok (.aload_n 0, 1) := by decide +kernel
theorem dP_joinLastTwo_13 : decode prog_3_method_3_code 13 = .ok (.getfield 15, 3) := by decide +kernel
theorem dP_joinLastTwo_16 : decode prog_3_method_3_code 16 = .ok (.arraylength, 1) := by decide +kernel
theorem dP_joinLastTwo_17 : decode prog_3_method_3_code 17 = .ok (.if_icmp .le 4, 3) := by decide +kernel
theorem dP_joinLastTwo_20 : decode prog_3_method_3_code 20 = .ok (.return_, 1) := by decide +kernel
theorem dP_joinLastTwo_21 : decode prog_3_method_3_code 21 = .ok (.aload_n 0, 1) := by decide +kernel
theorem dP_joinLastTwo_22 : decode prog_3_method_3_code 22 = .ok (.getfield 15, 3) := by decide +kernel
theorem dP_joinLastTwo_25 : decode prog_3_method_3_code 25 = .ok (.aload_n 0, 1) := by decide +kernel
theorem dP_joinLastTwo_26 : decode prog_3_method_3_code 26 = .ok (.getfield 9, 3) := by decide +kernel
theorem dP_joinLastTwo_29 : decode prog_3_method_3_code 29 = .ok (.iconst 2, 1) := by decide +kernel
theorem dP_joinLastTwo_30 : decode prog_3_method_3_code 30 = .ok (.isub, 1) := by decide +kernel
theorem dP_joinLastTwo_31 : decode prog_3_method_3_code 31 = .ok (.iaload, 1) := by decide +kernel
theorem dP_joinLastTwo_32 : decode prog_3_method_3_code 32 = .ok (.aload_n 0, 1) := by decide +kernel
theorem dP_joinLastTwo_33 : decode prog_3_method_3_code 33 = .ok (.getfield 15, 3) := by decide +kernel
theorem dP_joinLastTwo_36 : decode prog_3_method_3_code 36 = .ok (.aload_n 0, 1) := by decide +kernel
theorem dP_joinLastTwo_37 : decode prog_3_method_3_code 37 = .ok (.getfield 9, 3) := by decide +kernel
theorem dP_joinLastTwo_40 : decode prog_3_method_3_code 40 = .ok (.iconst 1, 1) := by decide +kernel
theorem dP_joinLastTwo_41 : decode prog_3_method_3_code 41 = .ok (.isub, 1) := by decide +kernel
theorem dP_joinLastTwo_42 : decode prog_3_method_3_code 42 = .ok (.iaload, 1) := by decide +kernel
theorem dP_joinLastTwo_43 : decode prog_3_method_3_code 43 = .ok (.iadd, 1) := by decide +kernel
theorem dP_joinLastTwo_44 : decode prog_3_method_3_code 44 = .ok (.istore_n 2, 1) := by decide +kernel
theorem dP_joinLastTwo_45 : decode prog_3_method_3_code 45 = .ok (.aload_n 0, 1) := by decide +kernel
theorem dP_joinLastTwo_46 : decode prog_3_method_3_code 46 = .ok (.getfield 9, 3) := by decide +kernel
theorem dP_joinLastTwo_49 : decode prog_3_method_3_code 49 = .ok (.iconst 2, 1) := by decide +kernel
theorem dP_joinLastTwo_50 : decode prog_3_method_3_code 50 = .ok (.isub, 1) := by decide +kernel
theorem dP_joinLastTwo_51 : decode prog_3_method_3_code 51 = .ok (.istore_n 3, 1) := by decide +kernel
theorem dP_joinLastTwo_52 : decode prog_3_method_3_code 52 = .ok (.iload_n 3, 1) := by decide +kernel
theorem dP_joinLastTwo_53 : decode prog_3_method_3_code 53 = .ok (.ifCond .le 50, 3) := by decide +kernel
theorem dP_joinLastTwo_56 : decode prog_3_method_3_code 56 = .ok (.aload_n 0, 1) := by decide +kernel
theorem dP_joinLastTwo_57 : decode prog_3_method_3_code 57 = .ok (.getfield 15, 3) := by decide +kernel
theorem dP_joinLastTwo_60 : decode prog_3_method_3_code 60 = .ok (.iload_n 3, 1) := by decide +kernel
theorem dP_joinLastTwo_61 : decode prog_3_method_3_code 61 = .ok (.iconst 1, 1) := by decide +kernel
theorem dP_joinLastTwo_62 : decode prog_3_method_3_code 62 = .ok (.isub, 1) := by decide +kernel
theorem dP_joinLastTwo_63 : decode prog_3_method_3_code 63 = .ok (.iaload, 1) := by decide +kernel
theorem dP_joinLastTwo_64 : decode prog_3_method_3_code 64 = .ok (.iload_n 2, 1) := by decide +kernel
theorem dP_joinLastTwo_65 : decode prog_3_method_3_code 65 = .ok (.if_icmp .ge 38, 3) := by decide +kernel
theorem dP_joinLastTwo_68 : decode prog_3_method_3_code 68 = .ok (.aload_n 0, 1) := by decide +kernel
theorem dP_joinLastTwo_69 : decode prog_3_method_3_code 69 = .ok (.iload_n 3, 1) := by decide +kernel
theorem dP_joinLastTwo_70 : decode prog_3_method_3_code 70 = .ok (.aload_n 0, 1) := by decide +kernel
theorem dP_joinLastTwo_71 : decode prog_3_method_3_code 71 = .ok (.getfield 15, 3) := by decide +kernel
theorem dP_joinLastTwo_74 : decode prog_3_method_3_code 74 = .ok (.iload_n 3, 1) := by decide +kernel
theorem dP_joinLastTwo_75 : decode prog_3_method_3_code 75 = .ok (.iconst 1, 1) := by decide +kernel
theorem dP_joinLastTwo_76 : decode prog_3_method_3_code 76 = .ok (.isub, 1) := by decide +kernel
theorem dP_joinLastTwo_77 : decode prog_3_method_3_code 77 = .ok (.iaload, 1) := by decide +kernel
theorem dP_joinLastTwo_78 : decode prog_3_method_3_code 78 = .ok (.aload_n 0, 1) := by decide +kernel
theorem dP_joinLastTwo_79 : decode prog_3_method_3_code 79 = .ok (.getfield 19, 3) := by decide +kernel
theorem dP_joinLastTwo_82 : decode prog_3_method_3_code 82 = .ok (.iload_n 3, 1) := by decide +kernel
theorem dP_joinLastTwo_83 : decode prog_3_method_3_code 83 = .ok (.iconst 1, 1) := by decide +kernel
theorem dP_joinLastTwo_84 : decode prog_3_method_3_code 84 = .ok (.isub, 1) := by decide +kernel
theorem dP_joinLastTwo_85 : decode prog_3_method_3_code 85 = .ok (.iaload, 1) := by decide +kernel
theorem dP_joinLastTwo_86 : decode prog_3_method_3_code 86 = .ok (.aload_n 0, 1) := by decide +kernel
theorem dP_joinLastTwo_87 : decode prog_3_method_3_code 87 = .ok (.getfield 22, 3) := by decide +kernel
theorem dP_joinLastTwo_90 : decode prog_3_method_3_code 90 = .ok (.iload_n 3, 1) := by decide +kernel
theorem dP_joinLastTwo_91 : decode prog_3_method_3_code 91 = .ok (.iconst 1, 1) := by decide +kernel
theorem dP_joinLastTwo_92 : decode prog_3_method_3_code 92 = .ok (.isub, 1) := by decide +kernel
theorem dP_joinLastTwo_93 : decode prog_3_method_3_code 93 = .ok (.iaload, 1) := by decide +kernel
theorem dP_joinLastTwo_94 : decode prog_3_method_3_code 94 = .ok (.invokevirtual 25, 3) := by decide +kernel
theorem dP_joinLastTwo_97 : decode prog_3_method_3_code 97 = .ok (.iinc 3 (-1), 3) := by decide +kernel
theorem dP_joinLastTwo_100 : decode prog_3_method_3_code 100 = .ok (.goto (-48), 3) := by decide +kernel
theorem dP_joinLastTwo_103 : decode prog_3_method_3_code 103 = .ok (.aload_n 0, 1) := by decide +kernel
theorem dP_joinLastTwo_104 : decode prog_3_method_3_code 104 = .ok (.iload_n 3, 1) := by decide +kernel
theorem dP_joinLastTwo_105 : decode prog_3_method_3_code 105 = .ok (.iload_n 2, 1) := by decide +kernel
theorem dP_joinLastTwo_106 : decode prog_3_method_3_code 106 = .ok (.iconst (-1), 1) := by decide +kernel
theorem dP_joinLastTwo_107 : decode prog_3_method_3_code 107 = .ok (.iload_n 1, 1) := by decide +kernel
theorem dP_joinLastTwo_108 : decode prog_3_method_3_code 108 = .ok (.invokevirtual 25, 3) := by decide +kernel
theorem dP_joinLastTwo_111 : decode prog_3_method_3_code 111 = .ok (.aload_n 0, 1) := by decide +kernel
theorem dP_joinLastTwo_112 : decode prog_3_method_3_code 112 = .ok (.dup, 1) := by decide +kernel
theorem dP_joinLastTwo_113 : decode prog_3_method_3_code 113 = .ok (.getfield 9, 3) := by decide +kernel
theorem dP_joinLastTwo_116 : decode prog_3_method_3_code 116 = .ok (.iconst 1, 1) := by decide +kernel
theorem dP_joinLastTwo_117 : decode prog_3_method_3_code 117 = .ok (.isub, 1) := by decide +kernel
theorem dP_joinLastTwo_118 : decode prog_3_method_3_code 118 = .ok (.putfield 9, 3) := by decide +kernel
theorem dP_joinLastTwo_121 : decode prog_3_method_3_code 121 = .ok (.return_, 1) := by decide +kernel
def LP_joinLastTwo_52 (a0 : Nat) (x8 : Int32) (x11 : Int32) (K15 : Hp → Int32 → Option Hp) (rec22 : Hp → Int32 → Option Hp) (h20 : Hp) (x21 : Int32) : Option Hp :=
  if x21 ≤ 0 then
    (K15 h20 x21)
  else
    (gR h20 a0 1 0 (fun a23 =>
    ldI h20 a23 0 (x21 - 1) (fun x24 =>
    if (x8 + x11) ≤ x24 then
      (K15 h20 x21)
    else
      (gR h20 a0 1 0 (fun a25 =>
      ldI h20 a25 0 (x21 - 1) (fun x26 =>
      gR h20 a0 1 1 (fun a27 =>
      ldI h20 a27 0 (x21 - 1) (fun x28 =>
      gR h20 a0 1 2 (fun a29 =>
      ldI h20 a29 0 (x21 - 1) (fun x30 =>
      gd (isO h20 a0 1 = true) ((FP_set h20 a0 x21 x26 x28 x30).bind (fun r32 =>
      rec22 r32 (x21 + (-1))))))))))))))
def FP_joinLastTwo (h0 : Hp) (a0 : Nat) (p1 : Int32) : Option Hp :=
  gI h0 a0 1 3 (fun x1 =>
  jn (some h0)
  (fun (j2 : Option Hp) =>
  if x1 < 2 then
    (j2)
  else
    (gI h0 a0 1 3 (fun x3 =>
    gR h0 a0 1 0 (fun a4 =>
    alen h0 a4 0 (fun x5 =>
    if x3 ≤ x5 then
      (gR h0 a0 1 0 (fun a6 =>
      gI h0 a0 1 3 (fun x7 =>
      ldI h0 a6 0 (x7 - 2) (fun x8 =>
      gR h0 a0 1 0 (fun a9 =>
      gI h0 a0 1 3 (fun x10 =>
      ldI h0 a9 0 (x10 - 1) (fun x11 =>
      gI h0 a0 1 3 (fun x12 =>
      jn (fun (h13 : Hp) (x14 : Int32) =>
      gd (isO h13 a0 1 = true) ((FP_set h13 a0 x14 (x8 + x11) (-1) p1).bind (fun r17 =>
      gI r17 a0 1 3 (fun x18 =>
      pF r17 a0 1 3 (.int (x18 - 1)) (fun h19 =>
      some h19)))))
      (fun (K15 : Hp → Int32 → Option Hp) =>
      lpG (fun _ _ => none) fu (LP_joinLastTwo_52 a0 x8 x11 K15) h0 (x12 - 2))))))))))
    else
      (j2)))))))
set_option maxRecDepth 100000 in
set_option maxHeartbeats 4000000 in
theorem mP_joinLastTwo (l : Launch) (h0 : Hp) (z0 : Nat) (a0 : Nat) (p1 : Int32) (r : Hp) (hr : FP_joinLastTwo h0 a0 p1 = some r) : vM False l yP_joinLastTwo (Cond.code yP_joinLastTwo prog_3_method_3_code 4 none :: gW) 2 [.ref a0, .int p1] h0 z0 r z0 none 0 0 := by
  refine vM.of (by decide) rfl (Nat.le_of_ble_eq_true rfl) ?_
  intro p e s m args below meth c D dA C hin2
  refine (?_ : vO p l e (vR 2 0 0) s m args below meth c D dA (vA h0 z0) 4 False (fun r : Hp => MQ below (vQc False h0 z0 D dA r z0 none) args s 0 0 (vAr False h0 z0)) 0 0 h0 z0 [(0, .ref a0), (1, .int p1)] 0 [] (FP_joinLastTwo h0 a0 p1)) r hr
  obtain ⟨Q, hQ⟩ : ∃ Q : Hp → State → Prop, Q = (fun r : Hp => MQ below (vQc False h0 z0 D dA r z0 none) args s 0 0 (vAr False h0 z0)) := ⟨_, rfl⟩
  rw [← hQ]
  unfold FP_joinLastTwo
  refine v_aload_n C dP_joinLastTwo_0 rfl 0 rfl ?_
  refine v_getI C v_cl1 (by decide) in_1 rfl w_131 dP_joinLastTwo_1 (fun x1 => ?_)
  refine v_iconst (v := 2) C dP_joinLastTwo_4 (by decide) ?_
  refine v_jn (fun (j : Option Hp) => vO p l e (vR 2 0 0) s m args below meth c D dA (vA h0 z0) 4 False Q 0 0 h0 z0 [] 20 [] j) ?_ (fun j2 Hj2 => ?_)
  · exact v_vret C dP_joinLastTwo_20 (by rw [hQ])
  · refine v_icmp_lt (tgt := 20) C dP_joinLastTwo_5 (by decide) ?_ ?_
    · refine v_lv (lv' := []) [] rfl ?_
      exact Hj2
    · refine v_aload_n C dP_joinLastTwo_8 rfl 0 rfl ?_
      refine v_getI C v_cl1 (by decide) in_1 rfl w_131 dP_joinLastTwo_9 (fun x3 => ?_)
      refine v_aload_n C dP_joinLastTwo_12 rfl 0 rfl ?_
      refine v_getR C v_cl1 (by decide) in_1 rfl w_125 dP_joinLastTwo_13 (fun a4 => ?_)
      refine v_alen C rfl dP_joinLastTwo_16 (fun x5 => ?_)
      refine v_icmp_le (tgt := 21) C dP_joinLastTwo_17 (by decide) ?_ ?_
      · refine v_aload_n C dP_joinLastTwo_21 rfl 0 rfl ?_
        refine v_getR C v_cl1 (by decide) in_1 rfl w_125 dP_joinLastTwo_22 (fun a6 => ?_)
        refine v_aload_n C dP_joinLastTwo_25 rfl 0 rfl ?_
        refine v_getI C v_cl1 (by decide) in_1 rfl w_131 dP_joinLastTwo_26 (fun x7 => ?_)
        refine v_iconst (v := 2) C dP_joinLastTwo_29 (by decide) ?_
        refine v_isub C dP_joinLastTwo_30 ?_
        refine v_iald C rfl dP_joinLastTwo_31 (fun x8 => ?_)
        refine v_aload_n C dP_joinLastTwo_32 rfl 0 rfl ?_
        refine v_getR C v_cl1 (by decide) in_1 rfl w_125 dP_joinLastTwo_33 (fun a9 => ?_)
        refine v_aload_n C dP_joinLastTwo_36 rfl 0 rfl ?_
        refine v_getI C v_cl1 (by decide) in_1 rfl w_131 dP_joinLastTwo_37 (fun x10 => ?_)
        refine v_iconst (v := 1) C dP_joinLastTwo_40 (by decide) ?_
        refine v_isub C dP_joinLastTwo_41 ?_
        refine v_iald C rfl dP_joinLastTwo_42 (fun x11 => ?_)
        refine v_iadd C dP_joinLastTwo_43 ?_
        refine v_istore_n (lv' := [(0, .ref a0), (1, .int p1), (2, .int (x8 + x11))]) C dP_joinLastTwo_44 rfl (by decide) [1, 2, 0] rfl ?_
        refine v_aload_n C dP_joinLastTwo_45 rfl 0 rfl ?_
        refine v_getI C v_cl1 (by decide) in_1 rfl w_131 dP_joinLastTwo_46 (fun x12 => ?_)
        refine v_iconst (v := 2) C dP_joinLastTwo_49 (by decide) ?_
        refine v_isub C dP_joinLastTwo_50 ?_
        refine v_istore_n (lv' := [(0, .ref a0), (1, .int p1), (2, .int (x8 + x11)), (3, .int (x12 - 2))]) C dP_joinLastTwo_51 rfl (by decide) [1, 2, 3, 0] rfl ?_
        refine v_jn (fun (j : Hp → Int32 → Option Hp) => ∀ (h13 : Hp), ∀ (x14 : Int32), vO p l e (vR 2 0 0) s m args below meth c D dA (vA h0 z0) 4 False Q 0 0 h13 z0 [(0, .ref a0), (1, .int p1), (2, .int (x8 + x11)), (3, .int x14)] 103 [] (j h13 x14)) ?_ (fun K15 HK15 => ?_)
        · intro h13 x14
          refine v_aload_n C dP_joinLastTwo_103 rfl 0 rfl ?_
          refine v_iload_n C dP_joinLastTwo_104 rfl 3 rfl ?_
          refine v_iload_n C dP_joinLastTwo_105 rfl 2 rfl ?_
          refine v_iconst (v := (-1)) C dP_joinLastTwo_106 (by decide) ?_
          refine v_iload_n C dP_joinLastTwo_107 rfl 1 rfl ?_
          refine v_gd fun hO16 => ?_
          refine v_bind fun r17 hr17 => ?_
          refine v_callV0 (N := 4) (As := [.int x14, .int (x8 + x11), .int (-1), .int p1]) (st := []) C (fun f => f.elim) (mP_set l h13 z0 a0 x14 (x8 + x11) (-1) p1 r17 hr17) rfl w_368 w_51 (by decide +kernel) ⟨Nat.le_of_ble_eq_true rfl, Nat.le_of_ble_eq_true rfl⟩ rfl rfl (Nat.le_of_ble_eq_true rfl) ⟨Nat.zero_le _, Nat.zero_le _⟩ w_365 w_367 w_13 v_cl1 rfl hO16 dP_joinLastTwo_108 ?_
          refine v_aload_n C dP_joinLastTwo_111 rfl 0 rfl ?_
          refine v_dup C dP_joinLastTwo_112 rfl ?_
          refine v_getI C v_cl1 (by decide) in_1 rfl w_131 dP_joinLastTwo_113 (fun x18 => ?_)
          refine v_iconst (v := 1) C dP_joinLastTwo_116 (by decide) ?_
          refine v_isub C dP_joinLastTwo_117 ?_
          refine v_put C v_cl1 (by decide) in_1 ty_1 ty_1_ok nm_1 rfl w_131 rfl (ty := .int) (by decide +kernel) rfl rfl dP_joinLastTwo_118 (fun h19 => ?_)
          exact v_vret C dP_joinLastTwo_121 (by rw [hQ])
        · refine lpG_ind (bot := (fun _ _ => none)) (B := LP_joinLastTwo_52 a0 x8 x11 K15) (fun (r : Hp → Int32 → Option Hp) => ∀ (h20 : Hp), ∀ (x21 : Int32), vO p l e (vR 2 0 0) s m args below meth c D dA (vA h0 z0) 4 False Q 0 0 h20 z0 [(0, .ref a0), (1, .int p1), (2, .int (x8 + x11)), (3, .int x21)] 52 [] (r h20 x21)) ?_ ?_ fu h0 (x12 - 2)
          · intro h20 x21
            exact v_none
          · intro rec22 Hrec22 h20 x21
            unfold LP_joinLastTwo_52
            refine v_iload_n C dP_joinLastTwo_52 rfl 3 rfl ?_
            refine v_if_le (tgt := 103) C dP_joinLastTwo_53 (by decide) ?_ ?_
            · exact HK15 h20 x21
            · refine v_aload_n C dP_joinLastTwo_56 rfl 0 rfl ?_
              refine v_getR C v_cl1 (by decide) in_1 rfl w_125 dP_joinLastTwo_57 (fun a23 => ?_)
              refine v_iload_n C dP_joinLastTwo_60 rfl 3 rfl ?_
              refine v_iconst (v := 1) C dP_joinLastTwo_61 (by decide) ?_
              refine v_isub C dP_joinLastTwo_62 ?_
              refine v_iald C rfl dP_joinLastTwo_63 (fun x24 => ?_)
              refine v_iload_n C dP_joinLastTwo_64 rfl 2 rfl ?_
              refine v_icmp_ge (tgt := 103) C dP_joinLastTwo_65 (by decide) ?_ ?_
              · exact HK15 h20 x21
              · refine v_aload_n C dP_joinLastTwo_68 rfl 0 rfl ?_
                refine v_iload_n C dP_joinLastTwo_69 rfl 3 rfl ?_
                refine v_aload_n C dP_joinLastTwo_70 rfl 0 rfl ?_
                refine v_getR C v_cl1 (by decide) in_1 rfl w_125 dP_joinLastTwo_71 (fun a25 => ?_)
                refine v_iload_n C dP_joinLastTwo_74 rfl 3 rfl ?_
                refine v_iconst (v := 1) C dP_joinLastTwo_75 (by decide) ?_
                refine v_isub C dP_joinLastTwo_76 ?_
                refine v_iald C rfl dP_joinLastTwo_77 (fun x26 => ?_)
                refine v_aload_n C dP_joinLastTwo_78 rfl 0 rfl ?_
                refine v_getR C v_cl1 (by decide) in_1 rfl w_127 dP_joinLastTwo_79 (fun a27 => ?_)
                refine v_iload_n C dP_joinLastTwo_82 rfl 3 rfl ?_
                refine v_iconst (v := 1) C dP_joinLastTwo_83 (by decide) ?_
                refine v_isub C dP_joinLastTwo_84 ?_
                refine v_iald C rfl dP_joinLastTwo_85 (fun x28 => ?_)
                refine v_aload_n C dP_joinLastTwo_86 rfl 0 rfl ?_
                refine v_getR C v_cl1 (by decide) in_1 rfl w_129 dP_joinLastTwo_87 (fun a29 => ?_)
                refine v_iload_n C dP_joinLastTwo_90 rfl 3 rfl ?_
                refine v_iconst (v := 1) C dP_joinLastTwo_91 (by decide) ?_
                refine v_isub C dP_joinLastTwo_92 ?_
                refine v_iald C rfl dP_joinLastTwo_93 (fun x30 => ?_)
                refine v_gd fun hO31 => ?_
                refine v_bind fun r32 hr32 => ?_
                refine v_callV0 (N := 4) (As := [.int x21, .int x26, .int x28, .int x30]) (st := []) C (fun f => f.elim) (mP_set l h20 z0 a0 x21 x26 x28 x30 r32 hr32) rfl w_368 w_51 (by decide +kernel) ⟨Nat.le_of_ble_eq_true rfl, Nat.le_of_ble_eq_true rfl⟩ rfl rfl (Nat.le_of_ble_eq_true rfl) ⟨Nat.zero_le _, Nat.zero_le _⟩ w_365 w_367 w_13 v_cl1 rfl hO31 dP_joinLastTwo_94 ?_
                refine v_iinc (v := (x21 + (-1))) (lv' := [(0, .ref a0), (1, .int p1), (2, .int (x8 + x11)), (3, .int (x21 + (-1)))]) C dP_joinLastTwo_97 3 rfl rfl (by decide) [1, 2, 3, 0] rfl ?_
                refine v_goto (tgt := 52) C dP_joinLastTwo_100 (by decide) ?_
                exact Hrec22 r32 (x21 + (-1))
      · refine v_lv (lv' := []) [] rfl ?_
        exact Hj2
theorem dT_halve_0 : decode prog_5_method_20_code 0 = .ok (.aload_n 0, 1) := by decide +kernel
theorem dT_halve_1 : decode prog_5_method_20_code 1 = .ok (.invokevirtual 112, 3) := by decide +kernel
theorem dT_halve_4 : decode prog_5_method_20_code 4 = .ok (.aload_n 0, 1) := by decide +kernel
theorem dT_halve_5 : decode prog_5_method_20_code 5 = .ok (.getfield 15, 3) := by decide +kernel
theorem dT_halve_8 : decode prog_5_method_20_code 8 = .ok (.istore_n 1, 1) := by decide +kernel
theorem dT_halve_9 : decode prog_5_method_20_code 9 = .ok (.aload_n 0, 1) := by decide +kernel
theorem dT_halve_10 : decode prog_5_method_20_code 10 = .ok (.getfield 27, 3) := by decide +kernel
theorem dT_halve_13 : decode prog_5_method_20_code 13 = .ok (.getfield 115, 3) := by decide +kernel
theorem dT_halve_16 : decode prog_5_method_20_code 16 = .ok (.iconst 2, 1) := by decide +kernel
theorem dT_halve_17 : decode prog_5_method_20_code 17 = .ok (.if_icmp .lt 52, 3) := by decide +kernel
theorem dT_halve_20 : decode prog_5_method_20_code 20 = .ok (.iload_n 1, 1) := by decide +kernel
theorem dT_halve_21 : decode prog_5_method_20_code 21 = .ok (.iconst 2, 1) := by decide +kernel
theorem dT_halve_22 : decode prog_5_method_20_code 22 = .ok (.if_icmp .le 47, 3) := by decide +kernel
theorem dT_halve_25 : decode prog_5_method_20_code 25 = .ok (.iinc 1 (-2), 3) := by decide +kernel
theorem dT_halve_28 : decode prog_5_method_20_code 28 = .ok (.aload_n 0, 1) := by decide +kernel
theorem dT_halve_29 : decode prog_5_method_20_code 29 = .ok (.aload_n 0, 1) := by decide +kernel
theorem dT_halve_30 : decode prog_5_method_20_code 30 = .ok (.getfield 27, 3) := by decide +kernel
theorem dT_halve_33 : decode prog_5_method_20_code 33 = .ok (.getfield 115, 3) := by decide +kernel
theorem dT_halve_36 : decode prog_5_method_20_code 36 = .ok (.iconst 2, 1) := by decide +kernel
theorem dT_halve_37 : decode prog_5_method_20_code 37 = .ok (.isub, 1) := by decide +kernel
theorem dT_halve_38 : decode prog_5_method_20_code 38 = .ok (.iload_n 1, 1) := by decide +kernel
theorem dT_halve_39 : decode prog_5_method_20_code 39 = .ok (.invokevirtual 118, 3) := by decide +kernel
theorem dT_halve_42 : decode prog_5_method_20_code 42 = .ok (.aload_n 0, 1) := by decide +kernel
theorem dT_halve_43 : decode prog_5_method_20_code 43 = .ok (.aload_n 0, 1) := by decide +kernel
theorem dT_halve_44 : decode prog_5_method_20_code 44 = .ok (.getfield 27, 3) := by decide +kernel
theorem dT_halve_47 : decode prog_5_method_20_code 47 = .ok (.getfield 115, 3) := by decide +kernel
theorem dT_halve_50 : decode prog_5_method_20_code 50 = .ok (.iconst 1, 1) := by decide +kernel
theorem dT_halve_51 : decode prog_5_method_20_code 51 = .ok (.isub, 1) := by decide +kernel
theorem dT_halve_52 : decode prog_5_method_20_code 52 = .ok (.iload_n 1, 1) := by decide +kernel
theorem dT_halve_53 : decode prog_5_method_20_code 53 = .ok (.iconst 1, 1) := by decide +kernel
theorem dT_halve_54 : decode prog_5_method_20_code 54 = .ok (.iadd, 1) := by decide +kernel
theorem dT_halve_55 : decode prog_5_method_20_code 55 = .ok (.invokevirtual 118, 3) := by decide +kernel
theorem dT_halve_58 : decode prog_5_method_20_code 58 = .ok (.aload_n 0, 1) := by decide +kernel
theorem dT_halve_59 : decode prog_5_method_20_code 59 = .ok (.getfield 27, 3) := by decide +kernel
theorem dT_halve_62 : decode prog_5_method_20_code 62 = .ok (.iload_n 1, 1) := by decide +kernel
theorem dT_halve_63 : decode prog_5_method_20_code 63 = .ok (.invokevirtual 121, 3) := by decide +kernel
theorem dT_halve_66 : decode prog_5_method_20_code 66 = .ok (.goto (-57), 3) := by decide +kernel
theorem dT_halve_69 : decode prog_5_method_20_code 69 = .ok (.aload_n 0, 1) := by decide +kernel
theorem dT_halve_70 : decode prog_5_method_20_code 70 = .ok (.iconst 0, 1) := by decide +kernel
theorem dT_halve_71 : decode prog_5_method_20_code 71 = .ok (.iconst 0, 1) := by decide +kernel
theorem dT_halve_72 : decode prog_5_method_20_code 72 = .ok (.invokevirtual 118, 3) := by decide +kernel
theorem dT_halve_75 : decode prog_5_method_20_code 75 = .ok (.aload_n 0, 1) := by decide +kernel
theorem dT_halve_76 : decode prog_5_method_20_code 76 = .ok (.dup, 1) := by decide +kernel
theorem dT_halve_77 : decode prog_5_method_20_code 77 = .ok (.getfield 21, 3) := by decide +kernel
theorem dT_halve_80 : decode prog_5_method_20_code 80 = .ok (.iconst 1, 1) := by decide +kernel
theorem dT_halve_81 : decode prog_5_method_20_code 81 = .ok (.iadd, 1) := by decide +kernel
theorem dT_halve_82 : decode prog_5_method_20_code 82 = .ok (.putfield 21, 3) := by decide +kernel
theorem dT_halve_85 : decode prog_5_method_20_code 85 = .ok (.return_, 1) := by decide +kernel
def LT_halve_9 (a0 : Nat) (K5 : Hp → Option Hp) (rec12 : Hp → Int32 → Option Hp) (h10 : Hp) (x11 : Int32) : Option Hp :=
  gR h10 a0 3 1 (fun a13 =>
  gI h10 a13 1 3 (fun x14 =>
  if x14 < 2 then
    (K5 h10)
  else
    (if x11 ≤ 2 then
      (K5 h10)
    else
      (gR h10 a0 3 1 (fun a15 =>
      gI h10 a15 1 3 (fun x16 =>
      gd (isO h10 a0 3 = true) ((FT_settle h10 a0 (x16 - 2) (x11 + (-2))).bind (fun r18 =>
      gR r18 a0 3 1 (fun a19 =>
      gI r18 a19 1 3 (fun x20 =>
      gd (isO r18 a0 3 = true) ((FT_settle r18 a0 (x20 - 1) ((x11 + (-2)) + 1)).bind (fun r22 =>
      gR r22 a0 3 1 (fun a23 =>
      gd (isO r22 a23 1 = true) ((FP_joinLastTwo r22 a23 (x11 + (-2))).bind (fun r25 =>
      rec12 r25 (x11 + (-2)))))))))))))))))
def FT_halve (h0 : Hp) (a0 : Nat) : Option Hp :=
  gd (isO h0 a0 3 = true) ((FT_gatherPieces h0 a0).bind (fun r2 =>
  gI r2 a0 3 9 (fun x3 =>
  jn (fun (h4 : Hp) =>
  gd (isO h4 a0 3 = true) ((FT_settle h4 a0 0 0).bind (fun r7 =>
  gI r7 a0 3 11 (fun x8 =>
  pF r7 a0 3 11 (.int (x8 + 1)) (fun h9 =>
  some h9)))))
  (fun (K5 : Hp → Option Hp) =>
  lpG (fun _ _ => none) fu (LT_halve_9 a0 K5) r2 x3))))
set_option maxRecDepth 100000 in
set_option maxHeartbeats 4000000 in
theorem mT_halve (l : Launch) (h0 : Hp) (z0 : Nat) (a0 : Nat) (r : Hp) (hr : FT_halve h0 a0 = some r) : vM False l yT_halve (Cond.code yT_halve prog_5_method_20_code 2 none :: gW) 4 [.ref a0] h0 z0 r z0 none 0 0 := by
  refine vM.of (by decide) rfl (Nat.le_of_ble_eq_true rfl) ?_
  intro p e s m args below meth c D dA C hin2
  refine (?_ : vO p l e (vR 4 0 0) s m args below meth c D dA (vA h0 z0) 2 False (fun r : Hp => MQ below (vQc False h0 z0 D dA r z0 none) args s 0 0 (vAr False h0 z0)) 0 0 h0 z0 [(0, .ref a0)] 0 [] (FT_halve h0 a0)) r hr
  obtain ⟨Q, hQ⟩ : ∃ Q : Hp → State → Prop, Q = (fun r : Hp => MQ below (vQc False h0 z0 D dA r z0 none) args s 0 0 (vAr False h0 z0)) := ⟨_, rfl⟩
  rw [← hQ]
  unfold FT_halve
  refine v_aload_n C dT_halve_0 rfl 0 rfl ?_
  refine v_gd fun hO1 => ?_
  refine v_bind fun r2 hr2 => ?_
  refine v_callV0 (N := 0) (As := []) (st := []) C (fun f => f.elim) (mT_gatherPieces l h0 z0 a0 r2 hr2) rfl w_356 w_52 (by decide +kernel) ⟨Nat.le_of_ble_eq_true rfl, Nat.le_of_ble_eq_true rfl⟩ rfl rfl (Nat.le_of_ble_eq_true rfl) ⟨Nat.zero_le _, Nat.zero_le _⟩ w_353 w_355 w_12 v_cl3 rfl hO1 dT_halve_1 ?_
  refine v_aload_n C dT_halve_4 rfl 0 rfl ?_
  refine v_getI C v_cl3 (by decide) in_3 rfl w_170 dT_halve_5 (fun x3 => ?_)
  refine v_istore_n (lv' := [(0, .ref a0), (1, .int x3)]) C dT_halve_8 rfl (by decide) [1, 0] rfl ?_
  refine v_jn (fun (j : Hp → Option Hp) => ∀ (h4 : Hp), vO p l e (vR 4 0 0) s m args below meth c D dA (vA h0 z0) 2 False Q 0 0 h4 z0 [(0, .ref a0)] 69 [] (j h4)) ?_ (fun K5 HK5 => ?_)
  · intro h4
    refine v_aload_n C dT_halve_69 rfl 0 rfl ?_
    refine v_iconst (v := 0) C dT_halve_70 (by decide) ?_
    refine v_iconst (v := 0) C dT_halve_71 (by decide) ?_
    refine v_gd fun hO6 => ?_
    refine v_bind fun r7 hr7 => ?_
    refine v_callV0 (N := 2) (As := [.int 0, .int 0]) (st := []) C (fun f => f.elim) (mT_settle l h4 z0 a0 0 0 r7 hr7) rfl w_376 w_52 (by decide +kernel) ⟨Nat.le_of_ble_eq_true rfl, Nat.le_of_ble_eq_true rfl⟩ rfl rfl (Nat.le_of_ble_eq_true rfl) ⟨Nat.zero_le _, Nat.zero_le _⟩ w_373 w_375 w_14 v_cl3 rfl hO6 dT_halve_72 ?_
    refine v_aload_n C dT_halve_75 rfl 0 rfl ?_
    refine v_dup C dT_halve_76 rfl ?_
    refine v_getI C v_cl3 (by decide) in_3 rfl w_174 dT_halve_77 (fun x8 => ?_)
    refine v_iconst (v := 1) C dT_halve_80 (by decide) ?_
    refine v_iadd C dT_halve_81 ?_
    refine v_put C v_cl3 (by decide) in_3 ty_3 ty_3_ok nm_3 rfl w_174 rfl (ty := .int) (by decide +kernel) rfl rfl dT_halve_82 (fun h9 => ?_)
    exact v_vret C dT_halve_85 (by rw [hQ])
  · refine lpG_ind (bot := (fun _ _ => none)) (B := LT_halve_9 a0 K5) (fun (r : Hp → Int32 → Option Hp) => ∀ (h10 : Hp), ∀ (x11 : Int32), vO p l e (vR 4 0 0) s m args below meth c D dA (vA h0 z0) 2 False Q 0 0 h10 z0 [(0, .ref a0), (1, .int x11)] 9 [] (r h10 x11)) ?_ ?_ fu r2 x3
    · intro h10 x11
      exact v_none
    · intro rec12 Hrec12 h10 x11
      unfold LT_halve_9
      refine v_aload_n C dT_halve_9 rfl 0 rfl ?_
      refine v_getR C v_cl3 (by decide) in_3 rfl w_161 dT_halve_10 (fun a13 => ?_)
      refine v_getIN C v_cl1 (by decide) in_1 rfl (nf_8 C.2.2.2.2.2.2.2.2.2) dT_halve_13 (fun x14 => ?_)
      refine v_iconst (v := 2) C dT_halve_16 (by decide) ?_
      refine v_icmp_lt (tgt := 69) C dT_halve_17 (by decide) ?_ ?_
      · refine v_lv (lv' := [(0, .ref a0)]) [0] rfl ?_
        exact HK5 h10
      · refine v_iload_n C dT_halve_20 rfl 1 rfl ?_
        refine v_iconst (v := 2) C dT_halve_21 (by decide) ?_
        refine v_icmp_le (tgt := 69) C dT_halve_22 (by decide) ?_ ?_
        · refine v_lv (lv' := [(0, .ref a0)]) [0] rfl ?_
          exact HK5 h10
        · refine v_iinc (v := (x11 + (-2))) (lv' := [(0, .ref a0), (1, .int (x11 + (-2)))]) C dT_halve_25 1 rfl rfl (by decide) [1, 0] rfl ?_
          refine v_aload_n C dT_halve_28 rfl 0 rfl ?_
          refine v_aload_n C dT_halve_29 rfl 0 rfl ?_
          refine v_getR C v_cl3 (by decide) in_3 rfl w_161 dT_halve_30 (fun a15 => ?_)
          refine v_getIN C v_cl1 (by decide) in_1 rfl (nf_8 C.2.2.2.2.2.2.2.2.2) dT_halve_33 (fun x16 => ?_)
          refine v_iconst (v := 2) C dT_halve_36 (by decide) ?_
          refine v_isub C dT_halve_37 ?_
          refine v_iload_n C dT_halve_38 rfl 1 rfl ?_
          refine v_gd fun hO17 => ?_
          refine v_bind fun r18 hr18 => ?_
          refine v_callV0 (N := 2) (As := [.int (x16 - 2), .int (x11 + (-2))]) (st := []) C (fun f => f.elim) (mT_settle l h10 z0 a0 (x16 - 2) (x11 + (-2)) r18 hr18) rfl w_376 w_52 (by decide +kernel) ⟨Nat.le_of_ble_eq_true rfl, Nat.le_of_ble_eq_true rfl⟩ rfl rfl (Nat.le_of_ble_eq_true rfl) ⟨Nat.zero_le _, Nat.zero_le _⟩ w_373 w_375 w_14 v_cl3 rfl hO17 dT_halve_39 ?_
          refine v_aload_n C dT_halve_42 rfl 0 rfl ?_
          refine v_aload_n C dT_halve_43 rfl 0 rfl ?_
          refine v_getR C v_cl3 (by decide) in_3 rfl w_161 dT_halve_44 (fun a19 => ?_)
          refine v_getIN C v_cl1 (by decide) in_1 rfl (nf_8 C.2.2.2.2.2.2.2.2.2) dT_halve_47 (fun x20 => ?_)
          refine v_iconst (v := 1) C dT_halve_50 (by decide) ?_
          refine v_isub C dT_halve_51 ?_
          refine v_iload_n C dT_halve_52 rfl 1 rfl ?_
          refine v_iconst (v := 1) C dT_halve_53 (by decide) ?_
          refine v_iadd C dT_halve_54 ?_
          refine v_gd fun hO21 => ?_
          refine v_bind fun r22 hr22 => ?_
          refine v_callV0 (N := 2) (As := [.int (x20 - 1), .int ((x11 + (-2)) + 1)]) (st := []) C (fun f => f.elim) (mT_settle l r18 z0 a0 (x20 - 1) ((x11 + (-2)) + 1) r22 hr22) rfl w_376 w_52 (by decide +kernel) ⟨Nat.le_of_ble_eq_true rfl, Nat.le_of_ble_eq_true rfl⟩ rfl rfl (Nat.le_of_ble_eq_true rfl) ⟨Nat.zero_le _, Nat.zero_le _⟩ w_373 w_375 w_14 v_cl3 rfl hO21 dT_halve_55 ?_
          refine v_aload_n C dT_halve_58 rfl 0 rfl ?_
          refine v_getR C v_cl3 (by decide) in_3 rfl w_161 dT_halve_59 (fun a23 => ?_)
          refine v_iload_n C dT_halve_62 rfl 1 rfl ?_
          refine v_gd fun hO24 => ?_
          refine v_bind fun r25 hr25 => ?_
          refine v_callV0 (N := 1) (As := [.int (x11 + (-2))]) (st := []) C (fun f => f.elim) (mP_joinLastTwo l r22 z0 a23 (x11 + (-2)) r25 hr25) rfl w_381 w_51 (by decide +kernel) ⟨Nat.le_of_ble_eq_true rfl, Nat.le_of_ble_eq_true rfl⟩ rfl rfl (Nat.le_of_ble_eq_true rfl) ⟨Nat.zero_le _, Nat.zero_le _⟩ w_378 w_379 w_380 v_cl1 rfl hO24 dT_halve_63 ?_
          refine v_goto (tgt := 9) C dT_halve_66 (by decide) ?_
          exact Hrec12 r25 (x11 + (-2))
theorem dT_stepBy_0 : decode prog_5_method_15_code 0 = .ok (.aload_n 0, 1) := by decide +kernel
theorem dT_stepBy_1 : decode prog_5_method_15_code 1 = .ok (.getfield 9, 3) := by decide +kernel
theorem dT_stepBy_4 : decode prog_5_method_15_code 4 = .ok (.iconst 1, 1) := by decide +kernel
theorem dT_stepBy_5 : decode prog_5_method_15_code 5 = .ok (.if_icmp .ne 9, 3) := by decide +kernel
theorem dT_stepBy_8 : decode prog_5_method_15_code 8 = .ok (.aload_n 0, 1) := by decide +kernel
theorem dT_stepBy_9 : decode prog_5_method_15_code 9 = .ok (.iload_n 1, 1) := by decide +kernel
theorem dT_stepBy_10 : decode prog_5_method_15_code 10 = .ok (.invokevirtual 87, 3) := by decide +kernel
theorem dT_stepBy_13 : decode prog_5_method_15_code 13 = .ok (.return_, 1) := by decide +kernel
theorem dT_stepBy_14 : decode prog_5_method_15_code 14 = .ok (.aload_n 0, 1) := by decide +kernel
theorem dT_stepBy_15 : decode prog_5_method_15_code 15 = .ok (.iload_n 1, 1) := by decide +kernel
theorem dT_stepBy_16 : decode prog_5_method_15_code 16 = .ok (.invokevirtual 90, 3) := by decide +kernel
theorem dT_stepBy_19 : decode prog_5_method_15_code 19 = .ok (.ifCond .ne 8, 3) := by decide +kernel
theorem dT_stepBy_22 : decode prog_5_method_15_code 22 = .ok (.aload_n 0, 1) := by decide +kernel
theorem dT_stepBy_23 : decode prog_5_method_15_code 23 = .ok (.iload_n 1, 1) := by decide +kernel
theorem dT_stepBy_24 : decode prog_5_method_15_code 24 = .ok (.invokevirtual 93, 3) := by decide +kernel
theorem dT_stepBy_27 : decode prog_5_method_15_code 27 = .ok (.aload_n 0, 1) := by decide +kernel
theorem dT_stepBy_28 : decode prog_5_method_15_code 28 = .ok (.iload_n 1, 1) := by decide +kernel
theorem dT_stepBy_29 : decode prog_5_method_15_code 29 = .ok (.invokevirtual 96, 3) := by decide +kernel
theorem dT_stepBy_32 : decode prog_5_method_15_code 32 = .ok (.aload_n 0, 1) := by decide +kernel
theorem dT_stepBy_33 : decode prog_5_method_15_code 33 = .ok (.iconst 0, 1) := by decide +kernel
theorem dT_stepBy_34 : decode prog_5_method_15_code 34 = .ok (.invokevirtual 99, 3) := by decide +kernel
theorem dT_stepBy_37 : decode prog_5_method_15_code 37 = .ok (.iload_n 2, 1) := by decide +kernel
theorem dT_stepBy_38 : decode prog_5_method_15_code 38 = .ok (.if_icmp .lt 7, 3) := by decide +kernel
theorem dT_stepBy_41 : decode prog_5_method_15_code 41 = .ok (.aload_n 0, 1) := by decide +kernel
theorem dT_stepBy_42 : decode prog_5_method_15_code 42 = .ok (.invokevirtual 102, 3) := by decide +kernel
theorem dT_stepBy_45 : decode prog_5_method_15_code 45 = .ok (.return_, 1) := by decide +kernel
def FT_stepBy (h0 : Hp) (a0 : Nat) (p1 : Int32) (p2 : Int32) : Option Hp :=
  gI h0 a0 3 8 (fun x1 =>
  if x1 = 1 then
    (gd (isO h0 a0 3 = true) ((FT_stepSplayed h0 a0 p1).bind (fun r17 =>
    some r17)))
  else
    (gd (isO h0 a0 3 = true) ((FT_hasLeafOf h0 a0 p1).bind (fun r3 =>
    jn (fun (h4 : Hp) =>
    gd (isO h4 a0 3 = true) ((FT_stepCounted h4 a0 p1).bind (fun r7 =>
    gd (isO r7 a0 3 = true) ((FT_countAt r7 a0 0).bind (fun r9 =>
    jn (fun (h10 : Hp) =>
    some h10)
    (fun (j11 : Hp → Option Hp) =>
    if r9 < p2 then
      (j11 r7)
    else
      (gd (isO r7 a0 3 = true) ((FT_halve r7 a0).bind (fun r13 =>
      j11 r13)))))))))
    (fun (j5 : Hp → Option Hp) =>
    if r3 = 0 then
      (gd (isO h0 a0 3 = true) ((FT_splitEscapeFor h0 a0 p1).bind (fun r15 =>
      j5 r15)))
    else
      (j5 h0))))))
set_option maxRecDepth 100000 in
set_option maxHeartbeats 4000000 in
theorem mT_stepBy (l : Launch) (h0 : Hp) (z0 : Nat) (a0 : Nat) (p1 : Int32) (p2 : Int32) (r : Hp) (hr : FT_stepBy h0 a0 p1 p2 = some r) : vM False l yT_stepBy (Cond.code yT_stepBy prog_5_method_15_code 3 none :: gW) 5 [.ref a0, .int p1, .int p2] h0 z0 r z0 none 0 0 := by
  refine vM.of (by decide) rfl (Nat.le_of_ble_eq_true rfl) ?_
  intro p e s m args below meth c D dA C hin2
  refine (?_ : vO p l e (vR 5 0 0) s m args below meth c D dA (vA h0 z0) 3 False (fun r : Hp => MQ below (vQc False h0 z0 D dA r z0 none) args s 0 0 (vAr False h0 z0)) 0 0 h0 z0 [(0, .ref a0), (1, .int p1), (2, .int p2)] 0 [] (FT_stepBy h0 a0 p1 p2)) r hr
  obtain ⟨Q, hQ⟩ : ∃ Q : Hp → State → Prop, Q = (fun r : Hp => MQ below (vQc False h0 z0 D dA r z0 none) args s 0 0 (vAr False h0 z0)) := ⟨_, rfl⟩
  rw [← hQ]
  unfold FT_stepBy
  refine v_aload_n C dT_stepBy_0 rfl 0 rfl ?_
  refine v_getI C v_cl3 (by decide) in_3 rfl w_168 dT_stepBy_1 (fun x1 => ?_)
  refine v_iconst (v := 1) C dT_stepBy_4 (by decide) ?_
  refine v_icmp_ne (tgt := 14) C dT_stepBy_5 (by decide) ?_ ?_
  · refine v_aload_n C dT_stepBy_14 rfl 0 rfl ?_
    refine v_iload_n C dT_stepBy_15 rfl 1 rfl ?_
    refine v_gd fun hO2 => ?_
    refine v_bind fun r3 hr3 => ?_
    refine v_callV0 (N := 1) (As := [.int p1]) (st := []) C (fun _ => trivial) (mT_hasLeafOf l h0 z0 a0 p1 r3 hr3) rfl w_281 w_52 (by decide +kernel) ⟨Nat.le_of_ble_eq_true rfl, Nat.le_of_ble_eq_true rfl⟩ rfl rfl (Nat.le_of_ble_eq_true rfl) ⟨Nat.zero_le _, Nat.zero_le _⟩ w_328 w_279 w_280 v_cl3 rfl hO2 dT_stepBy_16 ?_
    refine v_jn (fun (j : Hp → Option Hp) => ∀ (h4 : Hp), vO p l e (vR 5 0 0) s m args below meth c D dA (vA h0 z0) 3 False Q 0 0 h4 z0 [(0, .ref a0), (1, .int p1), (2, .int p2)] 27 [] (j h4)) ?_ (fun j5 Hj5 => ?_)
    · intro h4
      refine v_aload_n C dT_stepBy_27 rfl 0 rfl ?_
      refine v_iload_n C dT_stepBy_28 rfl 1 rfl ?_
      refine v_gd fun hO6 => ?_
      refine v_bind fun r7 hr7 => ?_
      refine v_callV0 (N := 1) (As := [.int p1]) (st := []) C (fun f => f.elim) (mT_stepCounted l h4 z0 a0 p1 r7 hr7) rfl w_336 w_52 (by decide +kernel) ⟨Nat.le_of_ble_eq_true rfl, Nat.le_of_ble_eq_true rfl⟩ rfl rfl (Nat.le_of_ble_eq_true rfl) ⟨Nat.zero_le _, Nat.zero_le _⟩ w_333 w_335 w_8 v_cl3 rfl hO6 dT_stepBy_29 ?_
      refine v_aload_n C dT_stepBy_32 rfl 0 rfl ?_
      refine v_iconst (v := 0) C dT_stepBy_33 (by decide) ?_
      refine v_gd fun hO8 => ?_
      refine v_bind fun r9 hr9 => ?_
      refine v_callV0 (N := 1) (As := [.int 0]) (st := []) C (fun _ => trivial) (mT_countAt l r7 z0 a0 0 r9 hr9) rfl w_344 w_52 (by decide +kernel) ⟨Nat.le_of_ble_eq_true rfl, Nat.le_of_ble_eq_true rfl⟩ rfl rfl (Nat.le_of_ble_eq_true rfl) ⟨Nat.zero_le _, Nat.zero_le _⟩ w_341 w_342 w_343 v_cl3 rfl hO8 dT_stepBy_34 ?_
      refine v_iload_n C dT_stepBy_37 rfl 2 rfl ?_
      refine v_jn (fun (j : Hp → Option Hp) => ∀ (h10 : Hp), vO p l e (vR 5 0 0) s m args below meth c D dA (vA h0 z0) 3 False Q 0 0 h10 z0 [] 45 [] (j h10)) ?_ (fun j11 Hj11 => ?_)
      · intro h10
        exact v_vret C dT_stepBy_45 (by rw [hQ])
      · refine v_icmp_lt (tgt := 45) C dT_stepBy_38 (by decide) ?_ ?_
        · refine v_lv (lv' := []) [] rfl ?_
          exact Hj11 r7
        · refine v_aload_n C dT_stepBy_41 rfl 0 rfl ?_
          refine v_gd fun hO12 => ?_
          refine v_bind fun r13 hr13 => ?_
          refine v_callV0 (N := 0) (As := []) (st := []) C (fun f => f.elim) (mT_halve l r7 z0 a0 r13 hr13) rfl w_352 w_52 (by decide +kernel) ⟨Nat.le_of_ble_eq_true rfl, Nat.le_of_ble_eq_true rfl⟩ rfl rfl (Nat.le_of_ble_eq_true rfl) ⟨Nat.zero_le _, Nat.zero_le _⟩ w_349 w_351 w_11 v_cl3 rfl hO12 dT_stepBy_42 ?_
          refine v_lv (lv' := []) [] rfl ?_
          exact Hj11 r13
    · refine v_if_ne (tgt := 27) C dT_stepBy_19 (by decide) ?_ ?_
      · exact Hj5 h0
      · refine v_aload_n C dT_stepBy_22 rfl 0 rfl ?_
        refine v_iload_n C dT_stepBy_23 rfl 1 rfl ?_
        refine v_gd fun hO14 => ?_
        refine v_bind fun r15 hr15 => ?_
        refine v_callV0 (N := 1) (As := [.int p1]) (st := []) C (fun f => f.elim) (mT_splitEscapeFor l h0 z0 a0 p1 r15 hr15) rfl w_332 w_52 (by decide +kernel) ⟨Nat.le_of_ble_eq_true rfl, Nat.le_of_ble_eq_true rfl⟩ rfl rfl (Nat.le_of_ble_eq_true rfl) ⟨Nat.zero_le _, Nat.zero_le _⟩ w_329 w_331 w_7 v_cl3 rfl hO14 dT_stepBy_24 ?_
        exact Hj5 r15
  · refine v_aload_n C dT_stepBy_8 rfl 0 rfl ?_
    refine v_iload_n C dT_stepBy_9 rfl 1 rfl ?_
    refine v_gd fun hO16 => ?_
    refine v_bind fun r17 hr17 => ?_
    refine v_callV0 (N := 1) (As := [.int p1]) (st := []) C (fun f => f.elim) (mT_stepSplayed l h0 z0 a0 p1 r17 hr17) rfl w_323 w_52 (by decide +kernel) ⟨Nat.le_of_ble_eq_true rfl, Nat.le_of_ble_eq_true rfl⟩ rfl rfl (Nat.le_of_ble_eq_true rfl) ⟨Nat.zero_le _, Nat.zero_le _⟩ w_320 w_322 w_5 v_cl3 rfl hO16 dT_stepBy_10 ?_
    exact v_vret C dT_stepBy_13 (by rw [hQ])
theorem dA_put_0 : decode prog_1_method_4_code 0 = .ok (.iload_n 1, 1) := by decide +kernel
theorem dA_put_1 : decode prog_1_method_4_code 1 = .ok (.invokestatic 83, 3) := by decide +kernel
theorem dA_put_4 : decode prog_1_method_4_code 4 = .ok (.ifCond .ne 6, 3) := by decide +kernel
theorem dA_put_7 : decode prog_1_method_4_code 7 = .ok (.bipush (-2), 2) := by decide +kernel
theorem dA_put_9 : decode prog_1_method_4_code 9 = .ok (.ireturn, 1) := by decide +kernel
theorem dA_put_10 : decode prog_1_method_4_code 10 = .ok (.aload_n 0, 1) := by decide +kernel
theorem dA_put_11 : decode prog_1_method_4_code 11 = .ok (.iload_n 2, 1) := by decide +kernel
theorem dA_put_12 : decode prog_1_method_4_code 12 = .ok (.invokevirtual 97, 3) := by decide +kernel
theorem dA_put_15 : decode prog_1_method_4_code 15 = .ok (.ifCond .ne 6, 3) := by decide +kernel
theorem dA_put_18 : decode prog_1_method_4_code 18 = .ok (.bipush (-3), 2) := by decide +kernel
theorem dA_put_20 : decode prog_1_method_4_code 20 = .ok (.ireturn, 1) := by decide +kernel
theorem dA_put_21 : decode prog_1_method_4_code 21 = .ok (.aload_n 0, 1) := by decide +kernel
theorem dA_put_22 : decode prog_1_method_4_code 22 = .ok (.aload_n 0, 1) := by decide +kernel
theorem dA_put_23 : decode prog_1_method_4_code 23 = .ok (.getfield 11, 3) := by decide +kernel
theorem dA_put_26 : decode prog_1_method_4_code 26 = .ok (.iload_n 1, 1) := by decide +kernel
theorem dA_put_27 : decode prog_1_method_4_code 27 = .ok (.aaload, 1) := by decide +kernel
theorem dA_put_28 : decode prog_1_method_4_code 28 = .ok (.iload_n 2, 1) := by decide +kernel
theorem dA_put_29 : decode prog_1_method_4_code 29 = .ok (.invokevirtual 100, 3) := by decide +kernel
theorem dA_put_32 : decode prog_1_method_4_code 32 = .ok (.aload_n 0, 1) := by decide +kernel
theorem dA_put_33 : decode prog_1_method_4_code 33 = .ok (.getfield 73, 3) := by decide +kernel
theorem dA_put_36 : decode prog_1_method_4_code 36 = .ok (.getfield 104, 3) := by decide +kernel
theorem dA_put_39 : decode prog_1_method_4_code 39 = .ok (.sipush 1000, 3) := by decide +kernel
theorem dA_put_42 : decode prog_1_method_4_code 42 = .ok (.aload_n 0, 1) := by decide +kernel
theorem dA_put_43 : decode prog_1_method_4_code 43 = .ok (.getfield 29, 3) := by decide +kernel
theorem dA_put_46 : decode prog_1_method_4_code 46 = .ok (.isub, 1) := by decide +kernel
theorem dA_put_47 : decode prog_1_method_4_code 47 = .ok (.if_icmp .le 6, 3) := by decide +kernel
theorem dA_put_50 : decode prog_1_method_4_code 50 = .ok (.bipush (-5), 2) := by decide +kernel
theorem dA_put_52 : decode prog_1_method_4_code 52 = .ok (.ireturn, 1) := by decide +kernel
theorem dA_put_53 : decode prog_1_method_4_code 53 = .ok (.iconst 0, 1) := by decide +kernel
theorem dA_put_54 : decode prog_1_method_4_code 54 = .ok (.istore_n 3, 1) := by decide +kernel
theorem dA_put_55 : decode prog_1_method_4_code 55 = .ok (.iload_n 3, 1) := by decide +kernel
theorem dA_put_56 : decode prog_1_method_4_code 56 = .ok (.aload_n 0, 1) := by decide +kernel
theorem dA_put_57 : decode prog_1_method_4_code 57 = .ok (.getfield 73, 3) := by decide +kernel
theorem dA_put_60 : decode prog_1_method_4_code 60 = .ok (.getfield 104, 3) := by decide +kernel
theorem dA_put_63 : decode prog_1_method_4_code 63 = .ok (.if_icmp .ge 36, 3) := by decide +kernel
theorem dA_put_66 : decode prog_1_method_4_code 66 = .ok (.aload_n 0, 1) := by decide +kernel
theorem dA_put_67 : decode prog_1_method_4_code 67 = .ok (.getfield 25, 3) := by decide +kernel
theorem dA_put_70 : decode prog_1_method_4_code 70 = .ok (.aload_n 0, 1) := by decide +kernel
theorem dA_put_71 : decode prog_1_method_4_code 71 = .ok (.getfield 29, 3) := by decide +kernel
theorem dA_put_74 : decode prog_1_method_4_code 74 = .ok (.aload_n 0, 1) := by decide +kernel
theorem dA_put_75 : decode prog_1_method_4_code 75 = .ok (.getfield 73, 3) := by decide +kernel
theorem dA_put_78 : decode prog_1_method_4_code 78 = .ok (.iload_n 3, 1) := by decide +kernel
theorem dA_put_79 : decode prog_1_method_4_code 79 = .ok (.invokevirtual 107, 3) := by decide +kernel
theorem dA_put_82 : decode prog_1_method_4_code 82 = .ok (.iastore, 1) := by decide +kernel
theorem dA_put_83 : decode prog_1_method_4_code 83 = .ok (.aload_n 0, 1) := by decide +kernel
theorem dA_put_84 : decode prog_1_method_4_code 84 = .ok (.dup, 1) := by decide +kernel
theorem dA_put_85 : decode prog_1_method_4_code 85 = .ok (.getfield 29, 3) := by decide +kernel
theorem dA_put_88 : decode prog_1_method_4_code 88 = .ok (.iconst 1, 1) := by decide +kernel
theorem dA_put_89 : decode prog_1_method_4_code 89 = .ok (.iadd, 1) := by decide +kernel
theorem dA_put_90 : decode prog_1_method_4_code 90 = .ok (.putfield 29, 3) := by decide +kernel
theorem dA_put_93 : decode prog_1_method_4_code 93 = .ok (.iinc 3 1, 3) := by decide +kernel
theorem dA_put_96 : decode prog_1_method_4_code 96 = .ok (.goto (-41), 3) := by decide +kernel
theorem dA_put_99 : decode prog_1_method_4_code 99 = .ok (.aload_n 0, 1) := by decide +kernel
theorem dA_put_100 : decode prog_1_method_4_code 100 = .ok (.getfield 11, 3) := by decide +kernel
theorem dA_put_103 : decode prog_1_method_4_code 103 = .ok (.iload_n 1, 1) := by decide +kernel
theorem dA_put_104 : decode prog_1_method_4_code 104 = .ok (.aaload, 1) := by decide +kernel
theorem dA_put_105 : decode prog_1_method_4_code 105 = .ok (.iload_n 2, 1) := by decide +kernel
theorem dA_put_106 : decode prog_1_method_4_code 106 = .ok (.aload_n 0, 1) := by decide +kernel
theorem dA_put_107 : decode prog_1_method_4_code 107 = .ok (.getfield 36, 3) := by decide +kernel
theorem dA_put_110 : decode prog_1_method_4_code 110 = .ok (.invokevirtual 110, 3) := by decide +kernel
theorem dA_put_113 : decode prog_1_method_4_code 113 = .ok (.aload_n 0, 1) := by decide +kernel
theorem dA_put_114 : decode prog_1_method_4_code 114 = .ok (.getfield 73, 3) := by decide +kernel
theorem dA_put_117 : decode prog_1_method_4_code 117 = .ok (.getfield 104, 3) := by decide +kernel
theorem dA_put_120 : decode prog_1_method_4_code 120 = .ok (.ireturn, 1) := by decide +kernel
def LA_put_55 (a0 : Nat) (K12 : Hp → Option (Hp × Int32)) (rec22 : Hp → Int32 → Option (Hp × Int32)) (h20 : Hp) (x21 : Int32) : Option (Hp × Int32) :=
  gR h20 a0 4 10 (fun a23 =>
  gI h20 a23 0 1 (fun x24 =>
  if x24 ≤ x21 then
    (K12 h20)
  else
    (gR h20 a0 4 6 (fun a25 =>
    gI h20 a0 4 7 (fun x26 =>
    gR h20 a0 4 10 (fun a27 =>
    gd (isO h20 a27 0 = true) ((FC_bitAt h20 a27 x21).bind (fun r29 =>
    stI h20 a25 0 x26 r29 (fun h30 =>
    gI h30 a0 4 7 (fun x31 =>
    pF h30 a0 4 7 (.int (x31 + 1)) (fun h32 =>
    rec22 h32 (x21 + 1))))))))))))
def FA_put (h0 : Hp) (a0 : Nat) (p1 : Int32) (p2 : Int32) : Option (Hp × Int32) :=
  (FA_isTree h0 p1).bind (fun r1 =>
  if r1 = 0 then
    (some (h0, (-2)))
  else
    (gd (isO h0 a0 4 = true) ((FA_isSign h0 a0 p2).bind (fun r3 =>
    if r3 = 0 then
      (some (h0, (-3)))
    else
      (gR h0 a0 4 2 (fun a4 =>
      ldQ h0 a4 3 p1 (fun a5 =>
      gd (isO h0 a0 4 = true) ((FA_layCode h0 a0 a5 p2).bind (fun r7 =>
      gR r7 a0 4 10 (fun a8 =>
      gI r7 a8 0 1 (fun x9 =>
      gI r7 a0 4 7 (fun x10 =>
      if x9 ≤ (1000 - x10) then
        (jn (fun (h11 : Hp) =>
        gR h11 a0 4 2 (fun a13 =>
        ldQ h11 a13 3 p1 (fun a14 =>
        gI h11 a0 4 9 (fun x15 =>
        gd (isO h11 a14 3 = true) ((FT_stepBy h11 a14 p2 x15).bind (fun r17 =>
        gR r17 a0 4 10 (fun a18 =>
        gI r17 a18 0 1 (fun x19 =>
        some (r17, x19)))))))))
        (fun (K12 : Hp → Option (Hp × Int32)) =>
        lpG (fun _ _ => none) fu (LA_put_55 a0 K12) r7 0))
      else
        (some (r7, (-5)))))))))))))))
set_option maxRecDepth 100000 in
set_option maxHeartbeats 4000000 in
theorem mA_put (l : Launch) (h0 : Hp) (z0 : Nat) (a0 : Nat) (p1 : Int32) (p2 : Int32) (r : (Hp × Int32)) (hr : FA_put h0 a0 p1 p2 = some r) : vM False l yA_put (Cond.code yA_put prog_1_method_4_code 4 (some (.int)) :: gW) 6 [.ref a0, .int p1, .int p2] h0 z0 r.1 z0 (some (.int r.2)) 0 0 := by
  refine vM.of (by decide) rfl (Nat.le_of_ble_eq_true rfl) ?_
  intro p e s m args below meth c D dA C hin2
  refine (?_ : vO p l e (vR 6 0 0) s m args below meth c D dA (vA h0 z0) 4 False (fun r : (Hp × Int32) => MQ below (vQc False h0 z0 D dA r.1 z0 (some (.int r.2))) args s 0 0 (vAr False h0 z0)) 0 0 h0 z0 [(0, .ref a0), (1, .int p1), (2, .int p2)] 0 [] (FA_put h0 a0 p1 p2)) r hr
  obtain ⟨Q, hQ⟩ : ∃ Q : (Hp × Int32) → State → Prop, Q = (fun r : (Hp × Int32) => MQ below (vQc False h0 z0 D dA r.1 z0 (some (.int r.2))) args s 0 0 (vAr False h0 z0)) := ⟨_, rfl⟩
  rw [← hQ]
  unfold FA_put
  refine v_iload_n C dA_put_0 rfl 1 rfl ?_
  refine v_bind fun r1 hr1 => ?_
  refine v_callS0 (N := 1) (As := [.int p1]) (st := []) C (fun _ => trivial) (mA_isTree l h0 z0 p1 r1 hr1) rfl w_244 w_47 (by decide +kernel) ⟨Nat.le_of_ble_eq_true rfl, Nat.le_of_ble_eq_true rfl⟩ rfl rfl (Nat.le_of_ble_eq_true rfl) ⟨Nat.zero_le _, Nat.zero_le _⟩ w_242 w_243 dA_put_1 ?_
  refine v_if_ne (tgt := 10) C dA_put_4 (by decide) ?_ ?_
  · refine v_aload_n C dA_put_10 rfl 0 rfl ?_
    refine v_iload_n C dA_put_11 rfl 2 rfl ?_
    refine v_gd fun hO2 => ?_
    refine v_bind fun r3 hr3 => ?_
    refine v_callV0 (N := 1) (As := [.int p2]) (st := []) C (fun _ => trivial) (mA_isSign l h0 z0 a0 p2 r3 hr3) rfl w_273 w_47 (by decide +kernel) ⟨Nat.le_of_ble_eq_true rfl, Nat.le_of_ble_eq_true rfl⟩ rfl rfl (Nat.le_of_ble_eq_true rfl) ⟨Nat.zero_le _, Nat.zero_le _⟩ w_270 w_272 w_3 v_cl4 rfl hO2 dA_put_12 ?_
    refine v_if_ne (tgt := 21) C dA_put_15 (by decide) ?_ ?_
    · refine v_aload_n C dA_put_21 rfl 0 rfl ?_
      refine v_aload_n C dA_put_22 rfl 0 rfl ?_
      refine v_getR C v_cl4 (by decide) in_4 rfl w_203 dA_put_23 (fun a4 => ?_)
      refine v_iload_n C dA_put_26 rfl 1 rfl ?_
      refine v_aald C rfl dA_put_27 (fun a5 => ?_)
      refine v_iload_n C dA_put_28 rfl 2 rfl ?_
      refine v_gd fun hO6 => ?_
      refine v_bind fun r7 hr7 => ?_
      refine v_callV0 (N := 2) (As := [.ref a5, .int p2]) (st := []) C (fun f => f.elim) (mA_layCode l h0 z0 a0 a5 p2 r7 hr7) rfl w_277 w_47 (by decide +kernel) ⟨Nat.le_of_ble_eq_true rfl, Nat.le_of_ble_eq_true rfl⟩ rfl rfl (Nat.le_of_ble_eq_true rfl) ⟨Nat.zero_le _, Nat.zero_le _⟩ w_274 w_276 w_4 v_cl4 rfl hO6 dA_put_29 ?_
      refine v_aload_n C dA_put_32 rfl 0 rfl ?_
      refine v_getR C v_cl4 (by decide) in_4 rfl w_211 dA_put_33 (fun a8 => ?_)
      refine v_getIN C v_cl0 (by decide) in_0 rfl (nf_1 C.2.2.2.2.2.2.2.2.2) dA_put_36 (fun x9 => ?_)
      refine v_sipush (v := 1000) C dA_put_39 (by decide) ?_
      refine v_aload_n C dA_put_42 rfl 0 rfl ?_
      refine v_getI C v_cl4 (by decide) in_4 rfl w_208 dA_put_43 (fun x10 => ?_)
      refine v_isub C dA_put_46 ?_
      refine v_icmp_le (tgt := 53) C dA_put_47 (by decide) ?_ ?_
      · refine v_iconst (v := 0) C dA_put_53 (by decide) ?_
        refine v_istore_n (lv' := [(0, .ref a0), (1, .int p1), (2, .int p2), (3, .int 0)]) C dA_put_54 rfl (by decide) [1, 2, 3, 0] rfl ?_
        refine v_jn (fun (j : Hp → Option (Hp × Int32)) => ∀ (h11 : Hp), vO p l e (vR 6 0 0) s m args below meth c D dA (vA h0 z0) 4 False Q 0 0 h11 z0 [(0, .ref a0), (1, .int p1), (2, .int p2)] 99 [] (j h11)) ?_ (fun K12 HK12 => ?_)
        · intro h11
          refine v_aload_n C dA_put_99 rfl 0 rfl ?_
          refine v_getR C v_cl4 (by decide) in_4 rfl w_203 dA_put_100 (fun a13 => ?_)
          refine v_iload_n C dA_put_103 rfl 1 rfl ?_
          refine v_aald C rfl dA_put_104 (fun a14 => ?_)
          refine v_iload_n C dA_put_105 rfl 2 rfl ?_
          refine v_aload_n C dA_put_106 rfl 0 rfl ?_
          refine v_getI C v_cl4 (by decide) in_4 rfl w_210 dA_put_107 (fun x15 => ?_)
          refine v_gd fun hO16 => ?_
          refine v_bind fun r17 hr17 => ?_
          refine v_callV0 (N := 2) (As := [.int p2, .int x15]) (st := []) C (fun f => f.elim) (mT_stepBy l h11 z0 a14 p2 x15 r17 hr17) rfl w_319 w_52 (by decide +kernel) ⟨Nat.le_of_ble_eq_true rfl, Nat.le_of_ble_eq_true rfl⟩ rfl rfl (Nat.le_of_ble_eq_true rfl) ⟨Nat.zero_le _, Nat.zero_le _⟩ w_316 w_317 w_318 v_cl3 rfl hO16 dA_put_110 ?_
          refine v_aload_n C dA_put_113 rfl 0 rfl ?_
          refine v_getR C v_cl4 (by decide) in_4 rfl w_211 dA_put_114 (fun a18 => ?_)
          refine v_getIN C v_cl0 (by decide) in_0 rfl (nf_1 C.2.2.2.2.2.2.2.2.2) dA_put_117 (fun x19 => ?_)
          exact v_iret C dA_put_120 (by rw [hQ])
        · refine lpG_ind (bot := (fun _ _ => none)) (B := LA_put_55 a0 K12) (fun (r : Hp → Int32 → Option (Hp × Int32)) => ∀ (h20 : Hp), ∀ (x21 : Int32), vO p l e (vR 6 0 0) s m args below meth c D dA (vA h0 z0) 4 False Q 0 0 h20 z0 [(0, .ref a0), (1, .int p1), (2, .int p2), (3, .int x21)] 55 [] (r h20 x21)) ?_ ?_ fu r7 0
          · intro h20 x21
            exact v_none
          · intro rec22 Hrec22 h20 x21
            unfold LA_put_55
            refine v_iload_n C dA_put_55 rfl 3 rfl ?_
            refine v_aload_n C dA_put_56 rfl 0 rfl ?_
            refine v_getR C v_cl4 (by decide) in_4 rfl w_211 dA_put_57 (fun a23 => ?_)
            refine v_getIN C v_cl0 (by decide) in_0 rfl (nf_1 C.2.2.2.2.2.2.2.2.2) dA_put_60 (fun x24 => ?_)
            refine v_icmp_ge (tgt := 99) C dA_put_63 (by decide) ?_ ?_
            · refine v_lv (lv' := [(0, .ref a0), (1, .int p1), (2, .int p2)]) [0, 1, 2] rfl ?_
              exact HK12 h20
            · refine v_aload_n C dA_put_66 rfl 0 rfl ?_
              refine v_getR C v_cl4 (by decide) in_4 rfl w_207 dA_put_67 (fun a25 => ?_)
              refine v_aload_n C dA_put_70 rfl 0 rfl ?_
              refine v_getI C v_cl4 (by decide) in_4 rfl w_208 dA_put_71 (fun x26 => ?_)
              refine v_aload_n C dA_put_74 rfl 0 rfl ?_
              refine v_getR C v_cl4 (by decide) in_4 rfl w_211 dA_put_75 (fun a27 => ?_)
              refine v_iload_n C dA_put_78 rfl 3 rfl ?_
              refine v_gd fun hO28 => ?_
              refine v_bind fun r29 hr29 => ?_
              refine v_callV0 (N := 1) (As := [.int x21]) (st := [.int x26, .ref a25]) C (fun _ => trivial) (mC_bitAt l h20 z0 a27 x21 r29 hr29) rfl w_315 w_50 (by decide +kernel) ⟨Nat.le_of_ble_eq_true rfl, Nat.le_of_ble_eq_true rfl⟩ rfl rfl (Nat.le_of_ble_eq_true rfl) ⟨Nat.zero_le _, Nat.zero_le _⟩ w_312 w_313 w_314 v_cl0 rfl hO28 dA_put_79 ?_
              refine v_iast C rfl dA_put_82 (fun h30 => ?_)
              refine v_aload_n C dA_put_83 rfl 0 rfl ?_
              refine v_dup C dA_put_84 rfl ?_
              refine v_getI C v_cl4 (by decide) in_4 rfl w_208 dA_put_85 (fun x31 => ?_)
              refine v_iconst (v := 1) C dA_put_88 (by decide) ?_
              refine v_iadd C dA_put_89 ?_
              refine v_put C v_cl4 (by decide) in_4 ty_4 ty_4_ok nm_4 rfl w_208 rfl (ty := .int) (by decide +kernel) rfl rfl dA_put_90 (fun h32 => ?_)
              refine v_iinc (v := (x21 + 1)) (lv' := [(0, .ref a0), (1, .int p1), (2, .int p2), (3, .int (x21 + 1))]) C dA_put_93 3 rfl rfl (by decide) [1, 2, 3, 0] rfl ?_
              refine v_goto (tgt := 55) C dA_put_96 (by decide) ?_
              exact Hrec22 h32 (x21 + 1)
      · refine v_bipush (v := (-5)) C dA_put_50 (by decide) ?_
        exact v_iret C dA_put_52 (by rw [hQ])
    · refine v_bipush (v := (-3)) C dA_put_18 (by decide) ?_
      exact v_iret C dA_put_20 (by rw [hQ])
  · refine v_bipush (v := (-2)) C dA_put_7 (by decide) ?_
    exact v_iret C dA_put_9 (by rw [hQ])
theorem dA_bits_0 : decode prog_1_method_5_code 0 = .ok (.aload_n 0, 1) := by decide +kernel
theorem dA_bits_1 : decode prog_1_method_5_code 1 = .ok (.getfield 29, 3) := by decide +kernel
theorem dA_bits_4 : decode prog_1_method_5_code 4 = .ok (.ireturn, 1) := by decide +kernel
def FA_bits (h0 : Hp) (a0 : Nat) : Option Int32 :=
  gI h0 a0 4 7 (fun x1 =>
  some x1)
set_option maxRecDepth 100000 in
set_option maxHeartbeats 4000000 in
theorem mA_bits (l : Launch) (h0 : Hp) (z0 : Nat) (a0 : Nat) (r : Int32) (hr : FA_bits h0 a0 = some r) : vM True l yA_bits (Cond.code yA_bits prog_1_method_5_code 1 (some (.int)) :: gW) 0 [.ref a0] h0 z0 h0 z0 (some (.int r)) 0 0 := by
  refine vM.of (by decide) rfl (Nat.le_of_ble_eq_true rfl) ?_
  intro p e s m args below meth c D dA C hin2
  refine (?_ : vO p l e (vR 0 0 0) s m args below meth c D dA (vA h0 z0) 1 True (fun r : Int32 => MQ below (vQc True h0 z0 D dA h0 z0 (some (.int r))) args s 0 0 (vAr True h0 z0)) 0 0 h0 z0 [(0, .ref a0)] 0 [] (FA_bits h0 a0)) r hr
  obtain ⟨Q, hQ⟩ : ∃ Q : Int32 → State → Prop, Q = (fun r : Int32 => MQ below (vQc True h0 z0 D dA h0 z0 (some (.int r))) args s 0 0 (vAr True h0 z0)) := ⟨_, rfl⟩
  rw [← hQ]
  unfold FA_bits
  refine v_aload_n C dA_bits_0 rfl 0 rfl ?_
  refine v_getI C v_cl4 (by decide) in_4 rfl w_208 dA_bits_1 (fun x1 => ?_)
  exact v_iret C dA_bits_4 (by rw [hQ])
theorem dA_bit_0 : decode prog_1_method_6_code 0 = .ok (.iload_n 1, 1) := by decide +kernel
theorem dA_bit_1 : decode prog_1_method_6_code 1 = .ok (.ifCond .lt 20, 3) := by decide +kernel
theorem dA_bit_4 : decode prog_1_method_6_code 4 = .ok (.iload_n 1, 1) := by decide +kernel
theorem dA_bit_5 : decode prog_1_method_6_code 5 = .ok (.aload_n 0, 1) := by decide +kernel
theorem dA_bit_6 : decode prog_1_method_6_code 6 = .ok (.getfield 29, 3) := by decide +kernel
theorem dA_bit_9 : decode prog_1_method_6_code 9 = .ok (.if_icmp .ge 12, 3) := by decide +kernel
theorem dA_bit_12 : decode prog_1_method_6_code 12 = .ok (.aload_n 0, 1) := by decide +kernel
theorem dA_bit_13 : decode prog_1_method_6_code 13 = .ok (.getfield 25, 3) := by decide +kernel
theorem dA_bit_16 : decode prog_1_method_6_code 16 = .ok (.iload_n 1, 1) := by decide +kernel
theorem dA_bit_17 : decode prog_1_method_6_code 17 = .ok (.iaload, 1) := by decide +kernel
theorem dA_bit_18 : decode prog_1_method_6_code 18 = .ok (.goto 4, 3) := by decide +kernel
theorem dA_bit_21 : decode prog_1_method_6_code 21 = .ok (.iconst (-1), 1) := by decide +kernel
theorem dA_bit_22 : decode prog_1_method_6_code 22 = .ok (.ireturn, 1) := by decide +kernel
def FA_bit (h0 : Hp) (a0 : Nat) (p1 : Int32) : Option Int32 :=
  jn (fun (y1 : Int32) =>
  some y1)
  (fun (j2 : Int32 → Option Int32) =>
  jn (j2 (-1))
  (fun (j3 : Option Int32) =>
  if p1 < 0 then
    (j3)
  else
    (gI h0 a0 4 7 (fun x4 =>
    if x4 ≤ p1 then
      (j3)
    else
      (gR h0 a0 4 6 (fun a5 =>
      ldI h0 a5 0 p1 (fun x6 =>
      j2 x6)))))))
set_option maxRecDepth 100000 in
set_option maxHeartbeats 4000000 in
theorem mA_bit (l : Launch) (h0 : Hp) (z0 : Nat) (a0 : Nat) (p1 : Int32) (r : Int32) (hr : FA_bit h0 a0 p1 = some r) : vM True l yA_bit (Cond.code yA_bit prog_1_method_6_code 2 (some (.int)) :: gW) 0 [.ref a0, .int p1] h0 z0 h0 z0 (some (.int r)) 0 0 := by
  refine vM.of (by decide) rfl (Nat.le_of_ble_eq_true rfl) ?_
  intro p e s m args below meth c D dA C hin2
  refine (?_ : vO p l e (vR 0 0 0) s m args below meth c D dA (vA h0 z0) 2 True (fun r : Int32 => MQ below (vQc True h0 z0 D dA h0 z0 (some (.int r))) args s 0 0 (vAr True h0 z0)) 0 0 h0 z0 [(0, .ref a0), (1, .int p1)] 0 [] (FA_bit h0 a0 p1)) r hr
  obtain ⟨Q, hQ⟩ : ∃ Q : Int32 → State → Prop, Q = (fun r : Int32 => MQ below (vQc True h0 z0 D dA h0 z0 (some (.int r))) args s 0 0 (vAr True h0 z0)) := ⟨_, rfl⟩
  rw [← hQ]
  unfold FA_bit
  refine v_iload_n C dA_bit_0 rfl 1 rfl ?_
  refine v_jn (fun (j : Int32 → Option Int32) => ∀ (y1 : Int32), vO p l e (vR 0 0 0) s m args below meth c D dA (vA h0 z0) 2 True Q 0 0 h0 z0 [] 22 [.int y1] (j y1)) ?_ (fun j2 Hj2 => ?_)
  · intro y1
    exact v_iret C dA_bit_22 (by rw [hQ])
  · refine v_jn (fun (j : Option Int32) => vO p l e (vR 0 0 0) s m args below meth c D dA (vA h0 z0) 2 True Q 0 0 h0 z0 [] 21 [] j) ?_ (fun j3 Hj3 => ?_)
    · refine v_iconst (v := (-1)) C dA_bit_21 (by decide) ?_
      exact Hj2 (-1)
    · refine v_if_lt (tgt := 21) C dA_bit_1 (by decide) ?_ ?_
      · refine v_lv (lv' := []) [] rfl ?_
        exact Hj3
      · refine v_iload_n C dA_bit_4 rfl 1 rfl ?_
        refine v_aload_n C dA_bit_5 rfl 0 rfl ?_
        refine v_getI C v_cl4 (by decide) in_4 rfl w_208 dA_bit_6 (fun x4 => ?_)
        refine v_icmp_ge (tgt := 21) C dA_bit_9 (by decide) ?_ ?_
        · refine v_lv (lv' := []) [] rfl ?_
          exact Hj3
        · refine v_aload_n C dA_bit_12 rfl 0 rfl ?_
          refine v_getR C v_cl4 (by decide) in_4 rfl w_207 dA_bit_13 (fun a5 => ?_)
          refine v_iload_n C dA_bit_16 rfl 1 rfl ?_
          refine v_iald C rfl dA_bit_17 (fun x6 => ?_)
          refine v_goto (tgt := 22) C dA_bit_18 (by decide) ?_
          refine v_lv (lv' := []) [] rfl ?_
          exact Hj2 x6
theorem dA_drop_0 : decode prog_1_method_7_code 0 = .ok (.aload_n 0, 1) := by decide +kernel
theorem dA_drop_1 : decode prog_1_method_7_code 1 = .ok (.getfield 29, 3) := by decide +kernel
theorem dA_drop_4 : decode prog_1_method_7_code 4 = .ok (.istore_n 1, 1) := by decide +kernel
theorem dA_drop_5 : decode prog_1_method_7_code 5 = .ok (.aload_n 0, 1) := by decide +kernel
theorem dA_drop_6 : decode prog_1_method_7_code 6 = .ok (.iconst 0, 1) := by decide +kernel
theorem dA_drop_7 : decode prog_1_method_7_code 7 = .ok (.putfield 29, 3) := by decide +kernel
theorem dA_drop_10 : decode prog_1_method_7_code 10 = .ok (.aload_n 0, 1) := by decide +kernel
theorem dA_drop_11 : decode prog_1_method_7_code 11 = .ok (.iconst 0, 1) := by decide +kernel
theorem dA_drop_12 : decode prog_1_method_7_code 12 = .ok (.putfield 33, 3) := by decide +kernel
theorem dA_drop_15 : decode prog_1_method_7_code 15 = .ok (.aload_n 0, 1) := by decide +kernel
theorem dA_drop_16 : decode prog_1_method_7_code 16 = .ok (.getfield 42, 3) := by decide +kernel
theorem dA_drop_19 : decode prog_1_method_7_code 19 = .ok (.invokevirtual 114, 3) := by decide +kernel
theorem dA_drop_22 : decode prog_1_method_7_code 22 = .ok (.iload_n 1, 1) := by decide +kernel
theorem dA_drop_23 : decode prog_1_method_7_code 23 = .ok (.ireturn, 1) := by decide +kernel
def FA_drop (h0 : Hp) (a0 : Nat) : Option (Hp × Int32) :=
  gI h0 a0 4 7 (fun x1 =>
  pF h0 a0 4 7 (.int 0) (fun h2 =>
  pF h2 a0 4 8 (.int 0) (fun h3 =>
  gR h3 a0 4 11 (fun a4 =>
  gd (isO h3 a4 2 = true) ((FR_begin h3 a4).bind (fun r6 =>
  some (r6, x1)))))))
set_option maxRecDepth 100000 in
set_option maxHeartbeats 4000000 in
theorem mA_drop (l : Launch) (h0 : Hp) (z0 : Nat) (a0 : Nat) (r : (Hp × Int32)) (hr : FA_drop h0 a0 = some r) : vM False l yA_drop (Cond.code yA_drop prog_1_method_7_code 2 (some (.int)) :: gW) 1 [.ref a0] h0 z0 r.1 z0 (some (.int r.2)) 0 0 := by
  refine vM.of (by decide) rfl (Nat.le_of_ble_eq_true rfl) ?_
  intro p e s m args below meth c D dA C hin2
  refine (?_ : vO p l e (vR 1 0 0) s m args below meth c D dA (vA h0 z0) 2 False (fun r : (Hp × Int32) => MQ below (vQc False h0 z0 D dA r.1 z0 (some (.int r.2))) args s 0 0 (vAr False h0 z0)) 0 0 h0 z0 [(0, .ref a0)] 0 [] (FA_drop h0 a0)) r hr
  obtain ⟨Q, hQ⟩ : ∃ Q : (Hp × Int32) → State → Prop, Q = (fun r : (Hp × Int32) => MQ below (vQc False h0 z0 D dA r.1 z0 (some (.int r.2))) args s 0 0 (vAr False h0 z0)) := ⟨_, rfl⟩
  rw [← hQ]
  unfold FA_drop
  refine v_aload_n C dA_drop_0 rfl 0 rfl ?_
  refine v_getI C v_cl4 (by decide) in_4 rfl w_208 dA_drop_1 (fun x1 => ?_)
  refine v_istore_n (lv' := [(0, .ref a0), (1, .int x1)]) C dA_drop_4 rfl (by decide) [1, 0] rfl ?_
  refine v_aload_n C dA_drop_5 rfl 0 rfl ?_
  refine v_iconst (v := 0) C dA_drop_6 (by decide) ?_
  refine v_put C v_cl4 (by decide) in_4 ty_4 ty_4_ok nm_4 rfl w_208 rfl (ty := .int) (by decide +kernel) rfl rfl dA_drop_7 (fun h2 => ?_)
  refine v_aload_n C dA_drop_10 rfl 0 rfl ?_
  refine v_iconst (v := 0) C dA_drop_11 (by decide) ?_
  refine v_put C v_cl4 (by decide) in_4 ty_4 ty_4_ok nm_4 rfl w_209 rfl (ty := .int) (by decide +kernel) rfl rfl dA_drop_12 (fun h3 => ?_)
  refine v_aload_n C dA_drop_15 rfl 0 rfl ?_
  refine v_getR C v_cl4 (by decide) in_4 rfl w_212 dA_drop_16 (fun a4 => ?_)
  refine v_gd fun hO5 => ?_
  refine v_bind fun r6 hr6 => ?_
  refine v_callV0 (N := 0) (As := []) (st := []) C (fun f => f.elim) (mR_begin l h3 z0 a4 r6 hr6) rfl w_260 w_48 (by decide +kernel) ⟨Nat.le_of_ble_eq_true rfl, Nat.le_of_ble_eq_true rfl⟩ rfl rfl (Nat.le_of_ble_eq_true rfl) ⟨Nat.zero_le _, Nat.zero_le _⟩ w_394 w_258 w_259 v_cl2 rfl hO5 dA_drop_19 ?_
  refine v_iload_n C dA_drop_22 rfl 1 rfl ?_
  exact v_iret C dA_drop_23 (by rw [hQ])
