theorem dT_init_0 : decode prog_5_method_1_code 0 = .ok (.aload_n 0, 1) := by decide +kernel
theorem dT_init_1 : decode prog_5_method_1_code 1 = .ok (.invokespecial 3, 3) := by decide +kernel
theorem dT_init_4 : decode prog_5_method_1_code 4 = .ok (.aload_n 0, 1) := by decide +kernel
theorem dT_init_5 : decode prog_5_method_1_code 5 = .ok (.iconst 0, 1) := by decide +kernel
theorem dT_init_6 : decode prog_5_method_1_code 6 = .ok (.putfield 9, 3) := by decide +kernel
theorem dT_init_9 : decode prog_5_method_1_code 9 = .ok (.aload_n 0, 1) := by decide +kernel
theorem dT_init_10 : decode prog_5_method_1_code 10 = .ok (.iconst 0, 1) := by decide +kernel
theorem dT_init_11 : decode prog_5_method_1_code 11 = .ok (.putfield 15, 3) := by decide +kernel
theorem dT_init_14 : decode prog_5_method_1_code 14 = .ok (.aload_n 0, 1) := by decide +kernel
theorem dT_init_15 : decode prog_5_method_1_code 15 = .ok (.iconst (-1), 1) := by decide +kernel
theorem dT_init_16 : decode prog_5_method_1_code 16 = .ok (.putfield 18, 3) := by decide +kernel
theorem dT_init_19 : decode prog_5_method_1_code 19 = .ok (.aload_n 0, 1) := by decide +kernel
theorem dT_init_20 : decode prog_5_method_1_code 20 = .ok (.iconst 0, 1) := by decide +kernel
theorem dT_init_21 : decode prog_5_method_1_code 21 = .ok (.putfield 21, 3) := by decide +kernel
theorem dT_init_24 : decode prog_5_method_1_code 24 = .ok (.aload_n 0, 1) := by decide +kernel
theorem dT_init_25 : decode prog_5_method_1_code 25 = .ok (.iload_n 1, 1) := by decide +kernel
theorem dT_init_26 : decode prog_5_method_1_code 26 = .ok (.putfield 24, 3) := by decide +kernel
theorem dT_init_29 : decode prog_5_method_1_code 29 = .ok (.aload_n 0, 1) := by decide +kernel
theorem dT_init_30 : decode prog_5_method_1_code 30 = .ok (.aload_n 2, 1) := by decide +kernel
theorem dT_init_31 : decode prog_5_method_1_code 31 = .ok (.putfield 27, 3) := by decide +kernel
theorem dT_init_34 : decode prog_5_method_1_code 34 = .ok (.iload_n 1, 1) := by decide +kernel
theorem dT_init_35 : decode prog_5_method_1_code 35 = .ok (.invokestatic 31, 3) := by decide +kernel
theorem dT_init_38 : decode prog_5_method_1_code 38 = .ok (.istore_n 3, 1) := by decide +kernel
theorem dT_init_39 : decode prog_5_method_1_code 39 = .ok (.aload_n 0, 1) := by decide +kernel
theorem dT_init_40 : decode prog_5_method_1_code 40 = .ok (.iload_n 3, 1) := by decide +kernel
theorem dT_init_41 : decode prog_5_method_1_code 41 = .ok (.newarray .int, 2) := by decide +kernel
theorem dT_init_43 : decode prog_5_method_1_code 43 = .ok (.putfield 35, 3) := by decide +kernel
theorem dT_init_46 : decode prog_5_method_1_code 46 = .ok (.aload_n 0, 1) := by decide +kernel
theorem dT_init_47 : decode prog_5_method_1_code 47 = .ok (.iload_n 3, 1) := by decide +kernel
theorem dT_init_48 : decode prog_5_method_1_code 48 = .ok (.newarray .int, 2) := by decide +kernel
theorem dT_init_50 : decode prog_5_method_1_code 50 = .ok (.putfield 39, 3) := by decide +kernel
theorem dT_init_53 : decode prog_5_method_1_code 53 = .ok (.aload_n 0, 1) := by decide +kernel
theorem dT_init_54 : decode prog_5_method_1_code 54 = .ok (.iload_n 3, 1) := by decide +kernel
theorem dT_init_55 : decode prog_5_method_1_code 55 = .ok (.newarray .int, 2) := by decide +kernel
theorem dT_init_57 : decode prog_5_method_1_code 57 = .ok (.putfield 42, 3) := by decide +kernel
theorem dT_init_60 : decode prog_5_method_1_code 60 = .ok (.aload_n 0, 1) := by decide +kernel
theorem dT_init_61 : decode prog_5_method_1_code 61 = .ok (.iload_n 3, 1) := by decide +kernel
theorem dT_init_62 : decode prog_5_method_1_code 62 = .ok (.newarray .int, 2) := by decide +kernel
theorem dT_init_64 : decode prog_5_method_1_code 64 = .ok (.putfield 45, 3) := by decide +kernel
theorem dT_init_67 : decode prog_5_method_1_code 67 = .ok (.aload_n 0, 1) := by decide +kernel
theorem dT_init_68 : decode prog_5_method_1_code 68 = .ok (.iload_n 3, 1) := by decide +kernel
theorem dT_init_69 : decode prog_5_method_1_code 69 = .ok (.newarray .int, 2) := by decide +kernel
theorem dT_init_71 : decode prog_5_method_1_code 71 = .ok (.putfield 48, 3) := by decide +kernel
theorem dT_init_74 : decode prog_5_method_1_code 74 = .ok (.aload_n 0, 1) := by decide +kernel
theorem dT_init_75 : decode prog_5_method_1_code 75 = .ok (.iload_n 1, 1) := by decide +kernel
theorem dT_init_76 : decode prog_5_method_1_code 76 = .ok (.newarray .int, 2) := by decide +kernel
theorem dT_init_78 : decode prog_5_method_1_code 78 = .ok (.putfield 51, 3) := by decide +kernel
theorem dT_init_81 : decode prog_5_method_1_code 81 = .ok (.aload_n 0, 1) := by decide +kernel
theorem dT_init_82 : decode prog_5_method_1_code 82 = .ok (.invokevirtual 54, 3) := by decide +kernel
theorem dT_init_85 : decode prog_5_method_1_code 85 = .ok (.return_, 1) := by decide +kernel
def FT_init (mc ms : Nat) (h0 : Hp) (z0 : Nat) (a0 : Nat) (p1 : Int32) (u2 : Nat) : Option (Hp × Nat) :=
  
  pF h0 a0 3 8 (.int 0) (fun h1 =>
  pF h1 a0 3 9 (.int 0) (fun h2 =>
  pF h2 a0 3 10 (.int (-1)) (fun h3 =>
  pF h3 a0 3 11 (.int 0) (fun h4 =>
  pF h4 a0 3 0 (.int p1) (fun h5 =>
  pF h5 a0 3 1 (.ref u2) (fun h6 =>
  gd (0 ≤ mc ∧ 0 ≤ ms) ((FA_mostNodes h6 p1).bind (fun r7 =>
  gd ((0 ≤ (r7 : Int32).toInt ∧ (r7 : Int32).toInt ≤ 65536) ∧ 0 + 1 ≤ mc ∧ 0 + (r7 : Int32).toNatClampNeg ≤ ms) (nw h6 z0 (.inl (0, (r7 : Int32).toNatClampNeg, .inl (fun _ => 0))) (fun h8 =>
  pF h8 a0 3 2 (.ref z0) (fun h9 =>
  gd ((0 ≤ (r7 : Int32).toInt ∧ (r7 : Int32).toInt ≤ 65536) ∧ (0 + 1) + 1 ≤ mc ∧ (0 + (r7 : Int32).toNatClampNeg) + (r7 : Int32).toNatClampNeg ≤ ms) (nw h9 (z0 + 1) (.inl (0, (r7 : Int32).toNatClampNeg, .inl (fun _ => 0))) (fun h10 =>
  pF h10 a0 3 3 (.ref (z0 + 1)) (fun h11 =>
  gd ((0 ≤ (r7 : Int32).toInt ∧ (r7 : Int32).toInt ≤ 65536) ∧ ((0 + 1) + 1) + 1 ≤ mc ∧ ((0 + (r7 : Int32).toNatClampNeg) + (r7 : Int32).toNatClampNeg) + (r7 : Int32).toNatClampNeg ≤ ms) (nw h11 ((z0 + 1) + 1) (.inl (0, (r7 : Int32).toNatClampNeg, .inl (fun _ => 0))) (fun h12 =>
  pF h12 a0 3 4 (.ref ((z0 + 1) + 1)) (fun h13 =>
  gd ((0 ≤ (r7 : Int32).toInt ∧ (r7 : Int32).toInt ≤ 65536) ∧ (((0 + 1) + 1) + 1) + 1 ≤ mc ∧ (((0 + (r7 : Int32).toNatClampNeg) + (r7 : Int32).toNatClampNeg) + (r7 : Int32).toNatClampNeg) + (r7 : Int32).toNatClampNeg ≤ ms) (nw h13 (((z0 + 1) + 1) + 1) (.inl (0, (r7 : Int32).toNatClampNeg, .inl (fun _ => 0))) (fun h14 =>
  pF h14 a0 3 5 (.ref (((z0 + 1) + 1) + 1)) (fun h15 =>
  gd ((0 ≤ (r7 : Int32).toInt ∧ (r7 : Int32).toInt ≤ 65536) ∧ ((((0 + 1) + 1) + 1) + 1) + 1 ≤ mc ∧ ((((0 + (r7 : Int32).toNatClampNeg) + (r7 : Int32).toNatClampNeg) + (r7 : Int32).toNatClampNeg) + (r7 : Int32).toNatClampNeg) + (r7 : Int32).toNatClampNeg ≤ ms) (nw h15 ((((z0 + 1) + 1) + 1) + 1) (.inl (0, (r7 : Int32).toNatClampNeg, .inl (fun _ => 0))) (fun h16 =>
  pF h16 a0 3 6 (.ref ((((z0 + 1) + 1) + 1) + 1)) (fun h17 =>
  gd ((0 ≤ (p1 : Int32).toInt ∧ (p1 : Int32).toInt ≤ 65536) ∧ (((((0 + 1) + 1) + 1) + 1) + 1) + 1 ≤ mc ∧ (((((0 + (r7 : Int32).toNatClampNeg) + (r7 : Int32).toNatClampNeg) + (r7 : Int32).toNatClampNeg) + (r7 : Int32).toNatClampNeg) + (r7 : Int32).toNatClampNeg) + (p1 : Int32).toNatClampNeg ≤ ms) (nw h17 (((((z0 + 1) + 1) + 1) + 1) + 1) (.inl (0, (p1 : Int32).toNatClampNeg, .inl (fun _ => 0))) (fun h18 =>
  pF h18 a0 3 7 (.ref (((((z0 + 1) + 1) + 1) + 1) + 1)) (fun h19 =>
  gd (((((((0 + 1) + 1) + 1) + 1) + 1) + 1) ≤ mc ∧ ((((((0 + (r7 : Int32).toNatClampNeg) + (r7 : Int32).toNatClampNeg) + (r7 : Int32).toNatClampNeg) + (r7 : Int32).toNatClampNeg) + (r7 : Int32).toNatClampNeg) + (p1 : Int32).toNatClampNeg) ≤ ms) (gd (isO h19 a0 3 = true) ((FT_beginCounted h19 a0).bind (fun r21 =>
  gd (((((((0 + 1) + 1) + 1) + 1) + 1) + 1) ≤ mc ∧ ((((((0 + (r7 : Int32).toNatClampNeg) + (r7 : Int32).toNatClampNeg) + (r7 : Int32).toNatClampNeg) + (r7 : Int32).toNatClampNeg) + (r7 : Int32).toNatClampNeg) + (p1 : Int32).toNatClampNeg) ≤ ms) (some (r21, ((((((z0 + 1) + 1) + 1) + 1) + 1) + 1))))))))))))))))))))))))))))))))
set_option maxRecDepth 100000 in
set_option maxHeartbeats 4000000 in
theorem mT_init (l : Launch) (mc ms : Nat) (h0 : Hp) (z0 : Nat) (a0 : Nat) (p1 : Int32) (u2 : Nat) (r : (Hp × Nat)) (hr : FT_init mc ms h0 z0 a0 p1 u2 = some r) : vM False l yT_init (Cond.code yT_init prog_5_method_1_code 4 none :: gW) 3 [.ref a0, .int p1, .ref u2] h0 z0 r.1 r.2 none mc ms := by
  refine vM.of (by decide) rfl (Nat.le_of_ble_eq_true rfl) ?_
  intro p e s m args below meth c D dA C hin2
  refine (?_ : vO p l e (vR 3 mc ms) s m args below meth c D dA (vA h0 z0) 4 False (fun r : (Hp × Nat) => MQ below (vQc False h0 z0 D dA r.1 r.2 none) args s mc ms (vAr False h0 z0)) 0 0 h0 z0 [(0, .ref a0), (1, .int p1), (2, .ref u2)] 0 [] (FT_init mc ms h0 z0 a0 p1 u2)) r hr
  obtain ⟨Q, hQ⟩ : ∃ Q : (Hp × Nat) → State → Prop, Q = (fun r : (Hp × Nat) => MQ below (vQc False h0 z0 D dA r.1 r.2 none) args s mc ms (vAr False h0 z0)) := ⟨_, rfl⟩
  rw [← hQ]
  unfold FT_init
  refine v_aload_n C dT_init_0 rfl 0 rfl ?_
  refine v_objInit C w_146 w_65 w_66 dT_init_1 (Nat.le_of_ble_eq_true rfl) (Nat.le_of_ble_eq_true rfl) ?_
  refine v_aload_n C dT_init_4 rfl 0 rfl ?_
  refine v_iconst (v := 0) C dT_init_5 (by decide) ?_
  refine v_put C v_cl3 (by decide) in_3 ty_3 ty_3_ok nm_3 rfl w_168 rfl (ty := .int) (by decide +kernel) rfl rfl dT_init_6 (fun h1 => ?_)
  refine v_aload_n C dT_init_9 rfl 0 rfl ?_
  refine v_iconst (v := 0) C dT_init_10 (by decide) ?_
  refine v_put C v_cl3 (by decide) in_3 ty_3 ty_3_ok nm_3 rfl w_170 rfl (ty := .int) (by decide +kernel) rfl rfl dT_init_11 (fun h2 => ?_)
  refine v_aload_n C dT_init_14 rfl 0 rfl ?_
  refine v_iconst (v := (-1)) C dT_init_15 (by decide) ?_
  refine v_put C v_cl3 (by decide) in_3 ty_3 ty_3_ok nm_3 rfl w_172 rfl (ty := .int) (by decide +kernel) rfl rfl dT_init_16 (fun h3 => ?_)
  refine v_aload_n C dT_init_19 rfl 0 rfl ?_
  refine v_iconst (v := 0) C dT_init_20 (by decide) ?_
  refine v_put C v_cl3 (by decide) in_3 ty_3 ty_3_ok nm_3 rfl w_174 rfl (ty := .int) (by decide +kernel) rfl rfl dT_init_21 (fun h4 => ?_)
  refine v_aload_n C dT_init_24 rfl 0 rfl ?_
  refine v_iload_n C dT_init_25 rfl 1 rfl ?_
  refine v_putF C v_cl3 (by decide) in_3 ty_3 ty_3_ok nm_3 rfl w_160 rfl hin2 rfl (ty := .int) (by decide +kernel) rfl rfl dT_init_26 (fun h5 => ?_)
  refine v_aload_n C dT_init_29 rfl 0 rfl ?_
  refine v_aload_n C dT_init_30 rfl 2 rfl ?_
  refine v_putF C v_cl3 (by decide) in_3 ty_3 ty_3_ok nm_3 rfl w_161 rfl hin2 rfl (ty := .object "AdaptiveTrees$Pieces") (by decide +kernel) rfl rfl dT_init_31 (fun h6 => ?_)
  refine v_iload_n C dT_init_34 rfl 1 rfl ?_
  refine v_gd fun HCS => ?_
  refine v_bind fun r7 hr7 => ?_
  refine v_callSN0 (N := 1) (As := [.int p1]) (st := []) C (fun _ => trivial) (mA_mostNodes l h6 z0 p1 r7 hr7) rfl w_106 w_47 (by decide +kernel) ⟨Nat.le_of_ble_eq_true rfl, Nat.le_of_ble_eq_true rfl⟩ rfl rfl (Nat.le_of_ble_eq_true rfl) HCS (nmm_1 C.2.2.2.2.2.2.2.2.2) w_105 dT_init_35 ?_
  refine v_istore_n (lv' := [(0, .ref a0), (1, .int p1), (3, .int r7)]) C dT_init_38 rfl (by decide) [1, 2, 0] rfl ?_
  refine v_aload_n C dT_init_39 rfl 0 rfl ?_
  refine v_iload_n C dT_init_40 rfl 2 rfl ?_
  refine v_newaI C rfl w_92 dT_init_41 (fun h8 => ?_)
  refine v_putF C v_cl3 (by decide) in_3 ty_3 ty_3_ok nm_3 rfl w_162 rfl hin2 rfl (ty := .array .int) (by decide +kernel) rfl rfl dT_init_43 (fun h9 => ?_)
  refine v_aload_n C dT_init_46 rfl 0 rfl ?_
  refine v_iload_n C dT_init_47 rfl 2 rfl ?_
  refine v_newaI C rfl w_92 dT_init_48 (fun h10 => ?_)
  refine v_putF C v_cl3 (by decide) in_3 ty_3 ty_3_ok nm_3 rfl w_163 rfl hin2 rfl (ty := .array .int) (by decide +kernel) rfl rfl dT_init_50 (fun h11 => ?_)
  refine v_aload_n C dT_init_53 rfl 0 rfl ?_
  refine v_iload_n C dT_init_54 rfl 2 rfl ?_
  refine v_newaI C rfl w_92 dT_init_55 (fun h12 => ?_)
  refine v_putF C v_cl3 (by decide) in_3 ty_3 ty_3_ok nm_3 rfl w_164 rfl hin2 rfl (ty := .array .int) (by decide +kernel) rfl rfl dT_init_57 (fun h13 => ?_)
  refine v_aload_n C dT_init_60 rfl 0 rfl ?_
  refine v_iload_n C dT_init_61 rfl 2 rfl ?_
  refine v_newaI C rfl w_92 dT_init_62 (fun h14 => ?_)
  refine v_putF C v_cl3 (by decide) in_3 ty_3 ty_3_ok nm_3 rfl w_165 rfl hin2 rfl (ty := .array .int) (by decide +kernel) rfl rfl dT_init_64 (fun h15 => ?_)
  refine v_aload_n C dT_init_67 rfl 0 rfl ?_
  refine v_iload_n C dT_init_68 rfl 2 rfl ?_
  refine v_newaI C rfl w_92 dT_init_69 (fun h16 => ?_)
  refine v_putF C v_cl3 (by decide) in_3 ty_3 ty_3_ok nm_3 rfl w_166 rfl hin2 rfl (ty := .array .int) (by decide +kernel) rfl rfl dT_init_71 (fun h17 => ?_)
  refine v_aload_n C dT_init_74 rfl 0 rfl ?_
  refine v_iload_n C dT_init_75 rfl 1 rfl ?_
  refine v_newaI C rfl w_92 dT_init_76 (fun h18 => ?_)
  refine v_putF C v_cl3 (by decide) in_3 ty_3 ty_3_ok nm_3 rfl w_167 rfl hin2 rfl (ty := .array .int) (by decide +kernel) rfl rfl dT_init_78 (fun h19 => ?_)
  refine v_aload_n C dT_init_81 rfl 0 rfl ?_
  refine v_gd fun HCS => ?_
  refine v_gd fun hO20 => ?_
  refine v_bind fun r21 hr21 => ?_
  refine v_callV0 (N := 0) (As := []) (st := []) C (fun f => f.elim) (mT_beginCounted l h19 ((((((z0 + 1) + 1) + 1) + 1) + 1) + 1) a0 r21 hr21) rfl w_151 w_52 (by decide +kernel) ⟨Nat.le_of_ble_eq_true rfl, Nat.le_of_ble_eq_true rfl⟩ rfl rfl (Nat.le_of_ble_eq_true rfl) HCS w_148 w_150 w_0 v_cl3 rfl hO20 dT_init_82 ?_
  exact v_vretW C dT_init_85 (by rw [hQ])
theorem dA_init_0 : decode prog_1_method_1_code 0 = .ok (.aload_n 0, 1) := by decide +kernel
theorem dA_init_1 : decode prog_1_method_1_code 1 = .ok (.invokespecial 1, 3) := by decide +kernel
theorem dA_init_4 : decode prog_1_method_1_code 4 = .ok (.aload_n 0, 1) := by decide +kernel
theorem dA_init_5 : decode prog_1_method_1_code 5 = .ok (.iconst 4, 1) := by decide +kernel
theorem dA_init_6 : decode prog_1_method_1_code 6 = .ok (.anewarray 9, 3) := by decide +kernel
theorem dA_init_9 : decode prog_1_method_1_code 9 = .ok (.putfield 11, 3) := by decide +kernel
theorem dA_init_12 : decode prog_1_method_1_code 12 = .ok (.aload_n 0, 1) := by decide +kernel
theorem dA_init_13 : decode prog_1_method_1_code 13 = .ok (.iconst 4, 1) := by decide +kernel
theorem dA_init_14 : decode prog_1_method_1_code 14 = .ok (.anewarray 9, 3) := by decide +kernel
theorem dA_init_17 : decode prog_1_method_1_code 17 = .ok (.putfield 15, 3) := by decide +kernel
theorem dA_init_20 : decode prog_1_method_1_code 20 = .ok (.aload_n 0, 1) := by decide +kernel
theorem dA_init_21 : decode prog_1_method_1_code 21 = .ok (.iconst 4, 1) := by decide +kernel
theorem dA_init_22 : decode prog_1_method_1_code 22 = .ok (.anewarray 9, 3) := by decide +kernel
theorem dA_init_25 : decode prog_1_method_1_code 25 = .ok (.putfield 18, 3) := by decide +kernel
theorem dA_init_28 : decode prog_1_method_1_code 28 = .ok (.aload_n 0, 1) := by decide +kernel
theorem dA_init_29 : decode prog_1_method_1_code 29 = .ok (.iconst 4, 1) := by decide +kernel
theorem dA_init_30 : decode prog_1_method_1_code 30 = .ok (.newarray .boolean, 2) := by decide +kernel
theorem dA_init_32 : decode prog_1_method_1_code 32 = .ok (.putfield 21, 3) := by decide +kernel
theorem dA_init_35 : decode prog_1_method_1_code 35 = .ok (.aload_n 0, 1) := by decide +kernel
theorem dA_init_36 : decode prog_1_method_1_code 36 = .ok (.sipush 1000, 3) := by decide +kernel
theorem dA_init_39 : decode prog_1_method_1_code 39 = .ok (.newarray .int, 2) := by decide +kernel
theorem dA_init_41 : decode prog_1_method_1_code 41 = .ok (.putfield 25, 3) := by decide +kernel
theorem dA_init_44 : decode prog_1_method_1_code 44 = .ok (.aload_n 0, 1) := by decide +kernel
theorem dA_init_45 : decode prog_1_method_1_code 45 = .ok (.iconst 0, 1) := by decide +kernel
theorem dA_init_46 : decode prog_1_method_1_code 46 = .ok (.putfield 29, 3) := by decide +kernel
theorem dA_init_49 : decode prog_1_method_1_code 49 = .ok (.aload_n 0, 1) := by decide +kernel
theorem dA_init_50 : decode prog_1_method_1_code 50 = .ok (.iconst 0, 1) := by decide +kernel
theorem dA_init_51 : decode prog_1_method_1_code 51 = .ok (.putfield 33, 3) := by decide +kernel
theorem dA_init_54 : decode prog_1_method_1_code 54 = .ok (.aload_n 0, 1) := by decide +kernel
theorem dA_init_55 : decode prog_1_method_1_code 55 = .ok (.sipush 1000, 3) := by decide +kernel
theorem dA_init_58 : decode prog_1_method_1_code 58 = .ok (.putfield 36, 3) := by decide +kernel
theorem dA_init_61 : decode prog_1_method_1_code 61 = .ok (.aload_n 0, 1) := by decide +kernel
theorem dA_init_62 : decode prog_1_method_1_code 62 = .ok (.new 39, 3) := by decide +kernel
theorem dA_init_65 : decode prog_1_method_1_code 65 = .ok (.dup, 1) := by decide +kernel
theorem dA_init_66 : decode prog_1_method_1_code 66 = .ok (.invokespecial 41, 3) := by decide +kernel
theorem dA_init_69 : decode prog_1_method_1_code 69 = .ok (.putfield 42, 3) := by decide +kernel
theorem dA_init_72 : decode prog_1_method_1_code 72 = .ok (.aload_n 0, 1) := by decide +kernel
theorem dA_init_73 : decode prog_1_method_1_code 73 = .ok (.iconst 2, 1) := by decide +kernel
theorem dA_init_74 : decode prog_1_method_1_code 74 = .ok (.bipush 64, 2) := by decide +kernel
theorem dA_init_76 : decode prog_1_method_1_code 76 = .ok (.iload_n 1, 1) := by decide +kernel
theorem dA_init_77 : decode prog_1_method_1_code 77 = .ok (.invokestatic 46, 3) := by decide +kernel
theorem dA_init_80 : decode prog_1_method_1_code 80 = .ok (.invokestatic 52, 3) := by decide +kernel
theorem dA_init_83 : decode prog_1_method_1_code 83 = .ok (.putfield 55, 3) := by decide +kernel
theorem dA_init_86 : decode prog_1_method_1_code 86 = .ok (.aload_n 0, 1) := by decide +kernel
theorem dA_init_87 : decode prog_1_method_1_code 87 = .ok (.aload_n 0, 1) := by decide +kernel
theorem dA_init_88 : decode prog_1_method_1_code 88 = .ok (.getfield 55, 3) := by decide +kernel
theorem dA_init_91 : decode prog_1_method_1_code 91 = .ok (.invokestatic 58, 3) := by decide +kernel
theorem dA_init_94 : decode prog_1_method_1_code 94 = .ok (.putfield 62, 3) := by decide +kernel
theorem dA_init_97 : decode prog_1_method_1_code 97 = .ok (.aload_n 0, 1) := by decide +kernel
theorem dA_init_98 : decode prog_1_method_1_code 98 = .ok (.new 65, 3) := by decide +kernel
theorem dA_init_101 : decode prog_1_method_1_code 101 = .ok (.dup, 1) := by decide +kernel
theorem dA_init_102 : decode prog_1_method_1_code 102 = .ok (.aload_n 0, 1) := by decide +kernel
theorem dA_init_103 : decode prog_1_method_1_code 103 = .ok (.getfield 55, 3) := by decide +kernel
theorem dA_init_106 : decode prog_1_method_1_code 106 = .ok (.invokestatic 67, 3) := by decide +kernel
theorem dA_init_109 : decode prog_1_method_1_code 109 = .ok (.aload_n 0, 1) := by decide +kernel
theorem dA_init_110 : decode prog_1_method_1_code 110 = .ok (.getfield 62, 3) := by decide +kernel
theorem dA_init_113 : decode prog_1_method_1_code 113 = .ok (.iadd, 1) := by decide +kernel
theorem dA_init_114 : decode prog_1_method_1_code 114 = .ok (.invokespecial 70, 3) := by decide +kernel
theorem dA_init_117 : decode prog_1_method_1_code 117 = .ok (.putfield 73, 3) := by decide +kernel
theorem dA_init_120 : decode prog_1_method_1_code 120 = .ok (.new 77, 3) := by decide +kernel
theorem dA_init_123 : decode prog_1_method_1_code 123 = .ok (.dup, 1) := by decide +kernel
theorem dA_init_124 : decode prog_1_method_1_code 124 = .ok (.aload_n 0, 1) := by decide +kernel
theorem dA_init_125 : decode prog_1_method_1_code 125 = .ok (.getfield 55, 3) := by decide +kernel
theorem dA_init_128 : decode prog_1_method_1_code 128 = .ok (.iconst 1, 1) := by decide +kernel
theorem dA_init_129 : decode prog_1_method_1_code 129 = .ok (.iadd, 1) := by decide +kernel
theorem dA_init_130 : decode prog_1_method_1_code 130 = .ok (.invokespecial 79, 3) := by decide +kernel
theorem dA_init_133 : decode prog_1_method_1_code 133 = .ok (.astore_n 2, 1) := by decide +kernel
theorem dA_init_134 : decode prog_1_method_1_code 134 = .ok (.iconst 0, 1) := by decide +kernel
theorem dA_init_135 : decode prog_1_method_1_code 135 = .ok (.istore_n 3, 1) := by decide +kernel
theorem dA_init_136 : decode prog_1_method_1_code 136 = .ok (.iload_n 3, 1) := by decide +kernel
theorem dA_init_137 : decode prog_1_method_1_code 137 = .ok (.iconst 4, 1) := by decide +kernel
theorem dA_init_138 : decode prog_1_method_1_code 138 = .ok (.if_icmp .ge 45, 3) := by decide +kernel
theorem dA_init_141 : decode prog_1_method_1_code 141 = .ok (.aload_n 0, 1) := by decide +kernel
theorem dA_init_142 : decode prog_1_method_1_code 142 = .ok (.getfield 11, 3) := by decide +kernel
theorem dA_init_145 : decode prog_1_method_1_code 145 = .ok (.iload_n 3, 1) := by decide +kernel
theorem dA_init_146 : decode prog_1_method_1_code 146 = .ok (.new 9, 3) := by decide +kernel
theorem dA_init_149 : decode prog_1_method_1_code 149 = .ok (.dup, 1) := by decide +kernel
theorem dA_init_150 : decode prog_1_method_1_code 150 = .ok (.aload_n 0, 1) := by decide +kernel
theorem dA_init_151 : decode prog_1_method_1_code 151 = .ok (.getfield 55, 3) := by decide +kernel
theorem dA_init_154 : decode prog_1_method_1_code 154 = .ok (.aload_n 2, 1) := by decide +kernel
theorem dA_init_155 : decode prog_1_method_1_code 155 = .ok (.invokespecial 80, 3) := by decide +kernel
theorem dA_init_158 : decode prog_1_method_1_code 158 = .ok (.aastore, 1) := by decide +kernel
theorem dA_init_159 : decode prog_1_method_1_code 159 = .ok (.aload_n 0, 1) := by decide +kernel
theorem dA_init_160 : decode prog_1_method_1_code 160 = .ok (.getfield 15, 3) := by decide +kernel
theorem dA_init_163 : decode prog_1_method_1_code 163 = .ok (.iload_n 3, 1) := by decide +kernel
theorem dA_init_164 : decode prog_1_method_1_code 164 = .ok (.new 9, 3) := by decide +kernel
theorem dA_init_167 : decode prog_1_method_1_code 167 = .ok (.dup, 1) := by decide +kernel
theorem dA_init_168 : decode prog_1_method_1_code 168 = .ok (.aload_n 0, 1) := by decide +kernel
theorem dA_init_169 : decode prog_1_method_1_code 169 = .ok (.getfield 55, 3) := by decide +kernel
theorem dA_init_172 : decode prog_1_method_1_code 172 = .ok (.aload_n 2, 1) := by decide +kernel
theorem dA_init_173 : decode prog_1_method_1_code 173 = .ok (.invokespecial 80, 3) := by decide +kernel
theorem dA_init_176 : decode prog_1_method_1_code 176 = .ok (.aastore, 1) := by decide +kernel
theorem dA_init_177 : decode prog_1_method_1_code 177 = .ok (.iinc 3 1, 3) := by decide +kernel
theorem dA_init_180 : decode prog_1_method_1_code 180 = .ok (.goto (-44), 3) := by decide +kernel
theorem dA_init_183 : decode prog_1_method_1_code 183 = .ok (.iconst 0, 1) := by decide +kernel
theorem dA_init_184 : decode prog_1_method_1_code 184 = .ok (.istore_n 3, 1) := by decide +kernel
theorem dA_init_185 : decode prog_1_method_1_code 185 = .ok (.iload_n 3, 1) := by decide +kernel
theorem dA_init_186 : decode prog_1_method_1_code 186 = .ok (.iconst 4, 1) := by decide +kernel
theorem dA_init_187 : decode prog_1_method_1_code 187 = .ok (.if_icmp .ge 27, 3) := by decide +kernel
theorem dA_init_190 : decode prog_1_method_1_code 190 = .ok (.aload_n 0, 1) := by decide +kernel
theorem dA_init_191 : decode prog_1_method_1_code 191 = .ok (.getfield 18, 3) := by decide +kernel
theorem dA_init_194 : decode prog_1_method_1_code 194 = .ok (.iload_n 3, 1) := by decide +kernel
theorem dA_init_195 : decode prog_1_method_1_code 195 = .ok (.new 9, 3) := by decide +kernel
theorem dA_init_198 : decode prog_1_method_1_code 198 = .ok (.dup, 1) := by decide +kernel
theorem dA_init_199 : decode prog_1_method_1_code 199 = .ok (.aload_n 0, 1) := by decide +kernel
theorem dA_init_200 : decode prog_1_method_1_code 200 = .ok (.getfield 55, 3) := by decide +kernel
theorem dA_init_203 : decode prog_1_method_1_code 203 = .ok (.aload_n 2, 1) := by decide +kernel
theorem dA_init_204 : decode prog_1_method_1_code 204 = .ok (.invokespecial 80, 3) := by decide +kernel
theorem dA_init_207 : decode prog_1_method_1_code 207 = .ok (.aastore, 1) := by decide +kernel
theorem dA_init_208 : decode prog_1_method_1_code 208 = .ok (.iinc 3 1, 3) := by decide +kernel
theorem dA_init_211 : decode prog_1_method_1_code 211 = .ok (.goto (-26), 3) := by decide +kernel
theorem dA_init_214 : decode prog_1_method_1_code 214 = .ok (.return_, 1) := by decide +kernel
def LA_init_185 (mc : Nat) (ms : Nat) (a0 : Nat) (r25 : (Hp × Nat)) (K39 : Hp → Nat → Nat → Nat → Option (Hp × Nat)) (rec45 : Hp → Nat → Nat → Nat → Int32 → Option (Hp × Nat)) (h40 : Hp) (k41 : Nat) (n42 : Nat) (z43 : Nat) (x44 : Int32) : Option (Hp × Nat) :=
  if 4 ≤ x44 then
    (K39 h40 k41 n42 z43)
  else
    (gR h40 a0 4 4 (fun a46 =>
    gd (k41 + 1 ≤ mc ∧ n42 + 12 ≤ ms) (nw h40 z43 (.inr (3, [.int 0, .null, .null, .null, .null, .null, .null, .null, .int 0, .int 0, .int 0, .int 0])) (fun h47 =>
    gI h47 a0 4 0 (fun x48 =>
    gd ((k41 + 1) + 6 ≤ mc ∧ (n42 + 12) + 800 ≤ ms) ((FT_init 6 800 h47 (z43 + 1) z43 x48 r25.2).bind (fun r49 =>
    stQ r49.1 a46 3 x44 3 z43 (fun h50 =>
    rec45 h50 ((k41 + 1) + 6) ((n42 + 12) + 800) r49.2 (x44 + 1)))))))))
def LA_init_136 (mc : Nat) (ms : Nat) (a0 : Nat) (r25 : (Hp × Nat)) (K34 : Hp → Nat → Nat → Nat → Option (Hp × Nat)) (rec56 : Hp → Nat → Nat → Nat → Int32 → Option (Hp × Nat)) (h51 : Hp) (k52 : Nat) (n53 : Nat) (z54 : Nat) (x55 : Int32) : Option (Hp × Nat) :=
  if 4 ≤ x55 then
    (K34 h51 k52 n53 z54)
  else
    (gR h51 a0 4 2 (fun a57 =>
    gd (k52 + 1 ≤ mc ∧ n53 + 12 ≤ ms) (nw h51 z54 (.inr (3, [.int 0, .null, .null, .null, .null, .null, .null, .null, .int 0, .int 0, .int 0, .int 0])) (fun h58 =>
    gI h58 a0 4 0 (fun x59 =>
    gd ((k52 + 1) + 6 ≤ mc ∧ (n53 + 12) + 800 ≤ ms) ((FT_init 6 800 h58 (z54 + 1) z54 x59 r25.2).bind (fun r60 =>
    stQ r60.1 a57 3 x55 3 z54 (fun h61 =>
    gR h61 a0 4 3 (fun a62 =>
    gd (((k52 + 1) + 6) + 1 ≤ mc ∧ ((n53 + 12) + 800) + 12 ≤ ms) (nw h61 r60.2 (.inr (3, [.int 0, .null, .null, .null, .null, .null, .null, .null, .int 0, .int 0, .int 0, .int 0])) (fun h63 =>
    gI h63 a0 4 0 (fun x64 =>
    gd ((((k52 + 1) + 6) + 1) + 6 ≤ mc ∧ (((n53 + 12) + 800) + 12) + 800 ≤ ms) ((FT_init 6 800 h63 (r60.2 + 1) r60.2 x64 r25.2).bind (fun r65 =>
    stQ r65.1 a62 3 x55 3 r60.2 (fun h66 =>
    rec56 h66 ((((k52 + 1) + 6) + 1) + 6) ((((n53 + 12) + 800) + 12) + 800) r65.2 (x55 + 1))))))))))))))))
def FA_init (mc ms : Nat) (h0 : Hp) (z0 : Nat) (a0 : Nat) (p1 : Int32) : Option (Hp × Nat) :=
  
  gd ((0 ≤ (4 : Int32).toInt ∧ (4 : Int32).toInt ≤ 65536) ∧ 0 + 1 ≤ mc ∧ 0 + (4 : Int32).toNatClampNeg ≤ ms) (nw h0 z0 (.inl (3, (4 : Int32).toNatClampNeg, .inr (.inr (.inr (.inr (fun _ => none)))))) (fun h1 =>
  pF h1 a0 4 2 (.ref z0) (fun h2 =>
  gd ((0 ≤ (4 : Int32).toInt ∧ (4 : Int32).toInt ≤ 65536) ∧ (0 + 1) + 1 ≤ mc ∧ (0 + (4 : Int32).toNatClampNeg) + (4 : Int32).toNatClampNeg ≤ ms) (nw h2 (z0 + 1) (.inl (3, (4 : Int32).toNatClampNeg, .inr (.inr (.inr (.inr (fun _ => none)))))) (fun h3 =>
  pF h3 a0 4 3 (.ref (z0 + 1)) (fun h4 =>
  gd ((0 ≤ (4 : Int32).toInt ∧ (4 : Int32).toInt ≤ 65536) ∧ ((0 + 1) + 1) + 1 ≤ mc ∧ ((0 + (4 : Int32).toNatClampNeg) + (4 : Int32).toNatClampNeg) + (4 : Int32).toNatClampNeg ≤ ms) (nw h4 ((z0 + 1) + 1) (.inl (3, (4 : Int32).toNatClampNeg, .inr (.inr (.inr (.inr (fun _ => none)))))) (fun h5 =>
  pF h5 a0 4 4 (.ref ((z0 + 1) + 1)) (fun h6 =>
  gd ((0 ≤ (4 : Int32).toInt ∧ (4 : Int32).toInt ≤ 65536) ∧ (((0 + 1) + 1) + 1) + 1 ≤ mc ∧ (((0 + (4 : Int32).toNatClampNeg) + (4 : Int32).toNatClampNeg) + (4 : Int32).toNatClampNeg) + (4 : Int32).toNatClampNeg ≤ ms) (nw h6 (((z0 + 1) + 1) + 1) (.inl (1, (4 : Int32).toNatClampNeg, .inl (fun _ => 0))) (fun h7 =>
  pF h7 a0 4 5 (.ref (((z0 + 1) + 1) + 1)) (fun h8 =>
  gd ((0 ≤ (1000 : Int32).toInt ∧ (1000 : Int32).toInt ≤ 65536) ∧ ((((0 + 1) + 1) + 1) + 1) + 1 ≤ mc ∧ ((((0 + (4 : Int32).toNatClampNeg) + (4 : Int32).toNatClampNeg) + (4 : Int32).toNatClampNeg) + (4 : Int32).toNatClampNeg) + (1000 : Int32).toNatClampNeg ≤ ms) (nw h8 ((((z0 + 1) + 1) + 1) + 1) (.inl (0, (1000 : Int32).toNatClampNeg, .inl (fun _ => 0))) (fun h9 =>
  pF h9 a0 4 6 (.ref ((((z0 + 1) + 1) + 1) + 1)) (fun h10 =>
  pF h10 a0 4 7 (.int 0) (fun h11 =>
  pF h11 a0 4 8 (.int 0) (fun h12 =>
  pF h12 a0 4 9 (.int 1000) (fun h13 =>
  gd ((((((0 + 1) + 1) + 1) + 1) + 1) + 1 ≤ mc ∧ (((((0 + (4 : Int32).toNatClampNeg) + (4 : Int32).toNatClampNeg) + (4 : Int32).toNatClampNeg) + (4 : Int32).toNatClampNeg) + (1000 : Int32).toNatClampNeg) + 4 ≤ ms) (nw h13 (((((z0 + 1) + 1) + 1) + 1) + 1) (.inr (2, [.int 0, .int 0, .int 0, .int 0])) (fun h14 =>
  gd (((((((0 + 1) + 1) + 1) + 1) + 1) + 1) ≤ mc ∧ ((((((0 + (4 : Int32).toNatClampNeg) + (4 : Int32).toNatClampNeg) + (4 : Int32).toNatClampNeg) + (4 : Int32).toNatClampNeg) + (1000 : Int32).toNatClampNeg) + 4) ≤ ms) ((FR_init h14 (((((z0 + 1) + 1) + 1) + 1) + 1)).bind (fun r15 =>
  pF r15 a0 4 11 (.ref (((((z0 + 1) + 1) + 1) + 1) + 1)) (fun h16 =>
  gd (((((((0 + 1) + 1) + 1) + 1) + 1) + 1) ≤ mc ∧ ((((((0 + (4 : Int32).toNatClampNeg) + (4 : Int32).toNatClampNeg) + (4 : Int32).toNatClampNeg) + (4 : Int32).toNatClampNeg) + (1000 : Int32).toNatClampNeg) + 4) ≤ ms) (
  gd (((((((0 + 1) + 1) + 1) + 1) + 1) + 1) ≤ mc ∧ ((((((0 + (4 : Int32).toNatClampNeg) + (4 : Int32).toNatClampNeg) + (4 : Int32).toNatClampNeg) + (4 : Int32).toNatClampNeg) + (1000 : Int32).toNatClampNeg) + 4) ≤ ms) (
  pF h16 a0 4 0 (.int (if 2 < (if p1 < 64 then p1 else 64) then (if p1 < 64 then p1 else 64) else 2)) (fun h17 =>
  gI h17 a0 4 0 (fun x18 =>
  gd (((((((0 + 1) + 1) + 1) + 1) + 1) + 1) ≤ mc ∧ ((((((0 + (4 : Int32).toNatClampNeg) + (4 : Int32).toNatClampNeg) + (4 : Int32).toNatClampNeg) + (4 : Int32).toNatClampNeg) + (1000 : Int32).toNatClampNeg) + 4) ≤ ms) ((FA_widthFor h17 x18).bind (fun r19 =>
  pF h17 a0 4 1 (.int r19) (fun h20 =>
  gd (((((((0 + 1) + 1) + 1) + 1) + 1) + 1) + 1 ≤ mc ∧ ((((((0 + (4 : Int32).toNatClampNeg) + (4 : Int32).toNatClampNeg) + (4 : Int32).toNatClampNeg) + (4 : Int32).toNatClampNeg) + (1000 : Int32).toNatClampNeg) + 4) + 2 ≤ ms) (nw h20 ((((((z0 + 1) + 1) + 1) + 1) + 1) + 1) (.inr (0, [.null, .int 0])) (fun h21 =>
  gI h21 a0 4 0 (fun x22 =>
  gd ((((((((0 + 1) + 1) + 1) + 1) + 1) + 1) + 1) ≤ mc ∧ (((((((0 + (4 : Int32).toNatClampNeg) + (4 : Int32).toNatClampNeg) + (4 : Int32).toNatClampNeg) + (4 : Int32).toNatClampNeg) + (1000 : Int32).toNatClampNeg) + 4) + 2) ≤ ms) ((FA_mostNodes h21 x22).bind (fun r23 =>
  gI h21 a0 4 1 (fun x24 =>
  gd ((((((((0 + 1) + 1) + 1) + 1) + 1) + 1) + 1) + 1 ≤ mc ∧ (((((((0 + (4 : Int32).toNatClampNeg) + (4 : Int32).toNatClampNeg) + (4 : Int32).toNatClampNeg) + (4 : Int32).toNatClampNeg) + (1000 : Int32).toNatClampNeg) + 4) + 2) + 200 ≤ ms) ((FC_init 1 200 h21 (((((((z0 + 1) + 1) + 1) + 1) + 1) + 1) + 1) ((((((z0 + 1) + 1) + 1) + 1) + 1) + 1) (r23 + x24)).bind (fun r25 =>
  pF r25.1 a0 4 10 (.ref ((((((z0 + 1) + 1) + 1) + 1) + 1) + 1)) (fun h26 =>
  gd (((((((((0 + 1) + 1) + 1) + 1) + 1) + 1) + 1) + 1) + 1 ≤ mc ∧ ((((((((0 + (4 : Int32).toNatClampNeg) + (4 : Int32).toNatClampNeg) + (4 : Int32).toNatClampNeg) + (4 : Int32).toNatClampNeg) + (1000 : Int32).toNatClampNeg) + 4) + 2) + 200) + 4 ≤ ms) (nw h26 r25.2 (.inr (1, [.null, .null, .null, .int 0])) (fun h27 =>
  gI h27 a0 4 0 (fun x28 =>
  gd ((((((((((0 + 1) + 1) + 1) + 1) + 1) + 1) + 1) + 1) + 1) + 3 ≤ mc ∧ (((((((((0 + (4 : Int32).toNatClampNeg) + (4 : Int32).toNatClampNeg) + (4 : Int32).toNatClampNeg) + (4 : Int32).toNatClampNeg) + (1000 : Int32).toNatClampNeg) + 4) + 2) + 200) + 4) + 300 ≤ ms) ((FP_init 3 300 h27 (r25.2 + 1) r25.2 (x28 + 1)).bind (fun r29 =>
  jn (fun (h30 : Hp) (k31 : Nat) (n32 : Nat) (z33 : Nat) =>
  jn (fun (h35 : Hp) (k36 : Nat) (n37 : Nat) (z38 : Nat) =>
  gd (k36 ≤ mc ∧ n37 ≤ ms) (some (h35, z38)))
  (fun (K39 : Hp → Nat → Nat → Nat → Option (Hp × Nat)) =>
  lpG (fun _ _ _ _ _ => none) fu (LA_init_185 mc ms a0 r25 K39) h30 k31 n32 z33 0))
  (fun (K34 : Hp → Nat → Nat → Nat → Option (Hp × Nat)) =>
  lpG (fun _ _ _ _ _ => none) fu (LA_init_136 mc ms a0 r25 K34) r29.1 ((((((((((0 + 1) + 1) + 1) + 1) + 1) + 1) + 1) + 1) + 1) + 3) ((((((((((0 + (4 : Int32).toNatClampNeg) + (4 : Int32).toNatClampNeg) + (4 : Int32).toNatClampNeg) + (4 : Int32).toNatClampNeg) + (1000 : Int32).toNatClampNeg) + 4) + 2) + 200) + 4) + 300) r29.2 0)))))))))))))))))))))))))))))))))))))))))))))
set_option maxRecDepth 100000 in
set_option maxHeartbeats 4000000 in
theorem mA_init (l : Launch) (mc ms : Nat) (h0 : Hp) (z0 : Nat) (a0 : Nat) (p1 : Int32) (r : (Hp × Nat)) (hr : FA_init mc ms h0 z0 a0 p1 = some r) : vM False l yA_init (Cond.code yA_init prog_1_method_1_code 4 none :: gW) 4 [.ref a0, .int p1] h0 z0 r.1 r.2 none mc ms := by
  refine vM.of (by decide) rfl (Nat.le_of_ble_eq_true rfl) ?_
  intro p e s m args below meth c D dA C hin2
  refine (?_ : vO p l e (vR 4 mc ms) s m args below meth c D dA (vA h0 z0) 4 False (fun r : (Hp × Nat) => MQ below (vQc False h0 z0 D dA r.1 r.2 none) args s mc ms (vAr False h0 z0)) 0 0 h0 z0 [(0, .ref a0), (1, .int p1)] 0 [] (FA_init mc ms h0 z0 a0 p1)) r hr
  obtain ⟨Q, hQ⟩ : ∃ Q : (Hp × Nat) → State → Prop, Q = (fun r : (Hp × Nat) => MQ below (vQc False h0 z0 D dA r.1 r.2 none) args s mc ms (vAr False h0 z0)) := ⟨_, rfl⟩
  rw [← hQ]
  unfold FA_init
  refine v_aload_n C dA_init_0 rfl 0 rfl ?_
  refine v_objInit C w_64 w_65 w_66 dA_init_1 (Nat.le_of_ble_eq_true rfl) (Nat.le_of_ble_eq_true rfl) ?_
  refine v_aload_n C dA_init_4 rfl 0 rfl ?_
  refine v_iconst (v := 4) C dA_init_5 (by decide) ?_
  refine v_newq C rfl w_67 C.2.2.2.2.2.2.2.2.2.2.2 dA_init_6 (fun h1 => ?_)
  refine v_putF C v_cl4 (by decide) in_4 ty_4 ty_4_ok nm_4 rfl w_203 rfl hin2 rfl (ty := .array (.object "AdaptiveTrees$Tree")) (by decide +kernel) rfl rfl dA_init_9 (fun h2 => ?_)
  refine v_aload_n C dA_init_12 rfl 0 rfl ?_
  refine v_iconst (v := 4) C dA_init_13 (by decide) ?_
  refine v_newq C rfl w_67 C.2.2.2.2.2.2.2.2.2.2.2 dA_init_14 (fun h3 => ?_)
  refine v_putF C v_cl4 (by decide) in_4 ty_4 ty_4_ok nm_4 rfl w_204 rfl hin2 rfl (ty := .array (.object "AdaptiveTrees$Tree")) (by decide +kernel) rfl rfl dA_init_17 (fun h4 => ?_)
  refine v_aload_n C dA_init_20 rfl 0 rfl ?_
  refine v_iconst (v := 4) C dA_init_21 (by decide) ?_
  refine v_newq C rfl w_67 C.2.2.2.2.2.2.2.2.2.2.2 dA_init_22 (fun h5 => ?_)
  refine v_putF C v_cl4 (by decide) in_4 ty_4 ty_4_ok nm_4 rfl w_205 rfl hin2 rfl (ty := .array (.object "AdaptiveTrees$Tree")) (by decide +kernel) rfl rfl dA_init_25 (fun h6 => ?_)
  refine v_aload_n C dA_init_28 rfl 0 rfl ?_
  refine v_iconst (v := 4) C dA_init_29 (by decide) ?_
  refine v_newaZ C rfl w_91 dA_init_30 (fun h7 => ?_)
  refine v_putF C v_cl4 (by decide) in_4 ty_4 ty_4_ok nm_4 rfl w_206 rfl hin2 rfl (ty := .array .boolean) (by decide +kernel) rfl rfl dA_init_32 (fun h8 => ?_)
  refine v_aload_n C dA_init_35 rfl 0 rfl ?_
  refine v_sipush (v := 1000) C dA_init_36 (by decide) ?_
  refine v_newaI C rfl w_92 dA_init_39 (fun h9 => ?_)
  refine v_putF C v_cl4 (by decide) in_4 ty_4 ty_4_ok nm_4 rfl w_207 rfl hin2 rfl (ty := .array .int) (by decide +kernel) rfl rfl dA_init_41 (fun h10 => ?_)
  refine v_aload_n C dA_init_44 rfl 0 rfl ?_
  refine v_iconst (v := 0) C dA_init_45 (by decide) ?_
  refine v_put C v_cl4 (by decide) in_4 ty_4 ty_4_ok nm_4 rfl w_208 rfl (ty := .int) (by decide +kernel) rfl rfl dA_init_46 (fun h11 => ?_)
  refine v_aload_n C dA_init_49 rfl 0 rfl ?_
  refine v_iconst (v := 0) C dA_init_50 (by decide) ?_
  refine v_put C v_cl4 (by decide) in_4 ty_4 ty_4_ok nm_4 rfl w_209 rfl (ty := .int) (by decide +kernel) rfl rfl dA_init_51 (fun h12 => ?_)
  refine v_aload_n C dA_init_54 rfl 0 rfl ?_
  refine v_sipush (v := 1000) C dA_init_55 (by decide) ?_
  refine v_put C v_cl4 (by decide) in_4 ty_4 ty_4_ok nm_4 rfl w_210 rfl (ty := .int) (by decide +kernel) rfl rfl dA_init_58 (fun h13 => ?_)
  refine v_aload_n C dA_init_61 rfl 0 rfl ?_
  refine v_new C v_cl2 in_2 ty_2 ty_2_ok w_69 w_70 w_48 fs_2 dA_init_62 (fun h14 => ?_)
  refine v_dup C dA_init_65 rfl ?_
  refine v_gd fun HCS => ?_
  refine v_bind fun r15 hr15 => ?_
  refine v_callIN0 (N := 0) (As := []) (st := [.ref (((((z0 + 1) + 1) + 1) + 1) + 1), .ref a0]) C (fun f => f.elim) (mR_init l h14 ((((((z0 + 1) + 1) + 1) + 1) + 1) + 1) (((((z0 + 1) + 1) + 1) + 1) + 1) r15 hr15) rfl w_73 w_48 (by decide +kernel) ⟨Nat.le_of_ble_eq_true rfl, Nat.le_of_ble_eq_true rfl⟩ rfl rfl (Nat.le_of_ble_eq_true rfl) HCS (nmm_0 C.2.2.2.2.2.2.2.2.2) rfl w_72 dA_init_66 ?_
  refine v_putF C v_cl4 (by decide) in_4 ty_4 ty_4_ok nm_4 rfl w_212 rfl hin2 rfl (ty := .object "AdaptiveTrees$Reading") (by decide +kernel) rfl rfl dA_init_69 (fun h16 => ?_)
  refine v_aload_n C dA_init_72 rfl 0 rfl ?_
  refine v_iconst (v := 2) C dA_init_73 (by decide) ?_
  refine v_bipush (v := 64) C dA_init_74 (by decide) ?_
  refine v_iload_n C dA_init_76 rfl 1 rfl ?_
  refine v_gd fun HCS => ?_
  refine v_mmin C w_93 w_94 w_49 w_95 (Nat.le_of_ble_eq_true rfl) (Nat.le_of_ble_eq_true rfl) HCS dA_init_77 ?_
  refine v_gd fun HCS => ?_
  refine v_mmax C w_96 w_97 w_49 w_98 (Nat.le_of_ble_eq_true rfl) (Nat.le_of_ble_eq_true rfl) HCS dA_init_80 ?_
  refine v_putF C v_cl4 (by decide) in_4 ty_4 ty_4_ok nm_4 rfl w_201 rfl hin2 rfl (ty := .int) (by decide +kernel) rfl rfl dA_init_83 (fun h17 => ?_)
  refine v_aload_n C dA_init_86 rfl 0 rfl ?_
  refine v_aload_n C dA_init_87 rfl 0 rfl ?_
  refine v_getI C v_cl4 (by decide) in_4 rfl w_201 dA_init_88 (fun x18 => ?_)
  refine v_gd fun HCS => ?_
  refine v_bind fun r19 hr19 => ?_
  refine v_callS0 (N := 1) (As := [.int x18]) (st := [.ref a0]) C (fun _ => trivial) (mA_widthFor l h17 ((((((z0 + 1) + 1) + 1) + 1) + 1) + 1) x18 r19 hr19) rfl w_101 w_47 (by decide +kernel) ⟨Nat.le_of_ble_eq_true rfl, Nat.le_of_ble_eq_true rfl⟩ rfl rfl (Nat.le_of_ble_eq_true rfl) HCS w_99 w_100 dA_init_91 ?_
  refine v_putF C v_cl4 (by decide) in_4 ty_4 ty_4_ok nm_4 rfl w_202 rfl hin2 rfl (ty := .int) (by decide +kernel) rfl rfl dA_init_94 (fun h20 => ?_)
  refine v_aload_n C dA_init_97 rfl 0 rfl ?_
  refine v_new C v_cl0 in_0 ty_0 ty_0_ok w_102 w_103 w_50 fs_0 dA_init_98 (fun h21 => ?_)
  refine v_dup C dA_init_101 rfl ?_
  refine v_aload_n C dA_init_102 rfl 0 rfl ?_
  refine v_getI C v_cl4 (by decide) in_4 rfl w_201 dA_init_103 (fun x22 => ?_)
  refine v_gd fun HCS => ?_
  refine v_bind fun r23 hr23 => ?_
  refine v_callS0 (N := 1) (As := [.int x22]) (st := [.ref ((((((z0 + 1) + 1) + 1) + 1) + 1) + 1), .ref ((((((z0 + 1) + 1) + 1) + 1) + 1) + 1), .ref a0]) C (fun _ => trivial) (mA_mostNodes l h21 (((((((z0 + 1) + 1) + 1) + 1) + 1) + 1) + 1) x22 r23 hr23) rfl w_106 w_47 (by decide +kernel) ⟨Nat.le_of_ble_eq_true rfl, Nat.le_of_ble_eq_true rfl⟩ rfl rfl (Nat.le_of_ble_eq_true rfl) HCS w_104 w_105 dA_init_106 ?_
  refine v_aload_n C dA_init_109 rfl 0 rfl ?_
  refine v_getI C v_cl4 (by decide) in_4 rfl w_202 dA_init_110 (fun x24 => ?_)
  refine v_iadd C dA_init_113 ?_
  refine v_gd fun hF => ?_
  refine v_bind fun r25 hr25 => ?_
  refine v_callI (N := 1) (As := [.int (r23 + x24)]) (st := [.ref ((((((z0 + 1) + 1) + 1) + 1) + 1) + 1), .ref a0]) C (fun f => f.elim) (mC_init l 1 200 h21 (((((((z0 + 1) + 1) + 1) + 1) + 1) + 1) + 1) ((((((z0 + 1) + 1) + 1) + 1) + 1) + 1) (r23 + x24) r25 hr25) rfl w_109 w_50 (by decide +kernel) ⟨Nat.le_of_ble_eq_true rfl, Nat.le_of_ble_eq_true rfl⟩ rfl rfl (Nat.le_of_ble_eq_true rfl) hF w_107 rfl w_108 dA_init_114 ?_
  refine v_putF C v_cl4 (by decide) in_4 ty_4 ty_4_ok nm_4 rfl w_211 rfl hin2 rfl (ty := .object "AdaptiveTrees$Code") (by decide +kernel) rfl rfl dA_init_117 (fun h26 => ?_)
  refine v_new C v_cl1 in_1 ty_1 ty_1_ok w_119 w_120 w_51 fs_1 dA_init_120 (fun h27 => ?_)
  refine v_dup C dA_init_123 rfl ?_
  refine v_aload_n C dA_init_124 rfl 0 rfl ?_
  refine v_getI C v_cl4 (by decide) in_4 rfl w_201 dA_init_125 (fun x28 => ?_)
  refine v_iconst (v := 1) C dA_init_128 (by decide) ?_
  refine v_iadd C dA_init_129 ?_
  refine v_gd fun hF => ?_
  refine v_bind fun r29 hr29 => ?_
  refine v_callI (N := 1) (As := [.int (x28 + 1)]) (st := [.ref r25.2]) C (fun f => f.elim) (mP_init l 3 300 h27 (r25.2 + 1) r25.2 (x28 + 1) r29 hr29) rfl w_123 w_51 (by decide +kernel) ⟨Nat.le_of_ble_eq_true rfl, Nat.le_of_ble_eq_true rfl⟩ rfl rfl (Nat.le_of_ble_eq_true rfl) hF w_121 rfl w_122 dA_init_130 ?_
  refine v_astore_n (lv' := [(0, .ref a0), (2, .ref r25.2)]) C dA_init_133 rfl (by decide) [1, 0] rfl ?_
  refine v_iconst (v := 0) C dA_init_134 (by decide) ?_
  refine v_istore_n (lv' := [(0, .ref a0), (2, .ref r25.2), (3, .int 0)]) C dA_init_135 rfl (by decide) [1, 2, 0] rfl ?_
  refine v_jn (fun (j : Hp → Nat → Nat → Nat → Option (Hp × Nat)) => ∀ (h30 : Hp), ∀ (k31 : Nat), ∀ (n32 : Nat), ∀ (z33 : Nat), vO p l e (vR 4 mc ms) s m args below meth c D dA (vA h0 z0) 4 False Q k31 n32 h30 z33 [(0, .ref a0), (2, .ref r25.2)] 183 [] (j h30 k31 n32 z33)) ?_ (fun K34 HK34 => ?_)
  · intro h30 k31 n32 z33
    refine v_iconst (v := 0) C dA_init_183 (by decide) ?_
    refine v_istore_n (lv' := [(0, .ref a0), (2, .ref r25.2), (3, .int 0)]) C dA_init_184 rfl (by decide) [1, 2, 0] rfl ?_
    refine v_jn (fun (j : Hp → Nat → Nat → Nat → Option (Hp × Nat)) => ∀ (h35 : Hp), ∀ (k36 : Nat), ∀ (n37 : Nat), ∀ (z38 : Nat), vO p l e (vR 4 mc ms) s m args below meth c D dA (vA h0 z0) 4 False Q k36 n37 h35 z38 [] 214 [] (j h35 k36 n37 z38)) ?_ (fun K39 HK39 => ?_)
    · intro h35 k36 n37 z38
      exact v_vretW C dA_init_214 (by rw [hQ])
    · refine lpG_ind (bot := (fun _ _ _ _ _ => none)) (B := LA_init_185 mc ms a0 r25 K39) (fun (r : Hp → Nat → Nat → Nat → Int32 → Option (Hp × Nat)) => ∀ (h40 : Hp), ∀ (k41 : Nat), ∀ (n42 : Nat), ∀ (z43 : Nat), ∀ (x44 : Int32), vO p l e (vR 4 mc ms) s m args below meth c D dA (vA h0 z0) 4 False Q k41 n42 h40 z43 [(0, .ref a0), (2, .ref r25.2), (3, .int x44)] 185 [] (r h40 k41 n42 z43 x44)) ?_ ?_ fu h30 k31 n32 z33 0
      · intro h40 k41 n42 z43 x44
        exact v_none
      · intro rec45 Hrec45 h40 k41 n42 z43 x44
        unfold LA_init_185
        refine v_iload_n C dA_init_185 rfl 2 rfl ?_
        refine v_iconst (v := 4) C dA_init_186 (by decide) ?_
        refine v_icmp_ge (tgt := 214) C dA_init_187 (by decide) ?_ ?_
        · refine v_lv (lv' := []) [] rfl ?_
          exact HK39 h40 k41 n42 z43
        · refine v_aload_n C dA_init_190 rfl 0 rfl ?_
          refine v_getR C v_cl4 (by decide) in_4 rfl w_205 dA_init_191 (fun a46 => ?_)
          refine v_iload_n C dA_init_194 rfl 2 rfl ?_
          refine v_new C v_cl3 in_3 ty_3 ty_3_ok w_67 w_142 w_52 fs_3 dA_init_195 (fun h47 => ?_)
          refine v_dup C dA_init_198 rfl ?_
          refine v_aload_n C dA_init_199 rfl 0 rfl ?_
          refine v_getI C v_cl4 (by decide) in_4 rfl w_201 dA_init_200 (fun x48 => ?_)
          refine v_aload_n C dA_init_203 rfl 1 rfl ?_
          refine v_gd fun hF => ?_
          refine v_bind fun r49 hr49 => ?_
          refine v_callI (N := 2) (As := [.int x48, .ref r25.2]) (st := [.ref z43, .int x44, .ref a46]) C (fun f => f.elim) (mT_init l 6 800 h47 (z43 + 1) z43 x48 r25.2 r49 hr49) rfl w_145 w_52 (by decide +kernel) ⟨Nat.le_of_ble_eq_true rfl, Nat.le_of_ble_eq_true rfl⟩ rfl rfl (Nat.le_of_ble_eq_true rfl) hF w_143 rfl w_144 dA_init_204 ?_
          refine v_aast C rfl rfl dA_init_207 (fun h50 => ?_)
          refine v_iinc (v := (x44 + 1)) (lv' := [(0, .ref a0), (2, .ref r25.2), (3, .int (x44 + 1))]) C dA_init_208 2 rfl rfl (by decide) [1, 2, 0] rfl ?_
          refine v_goto (tgt := 185) C dA_init_211 (by decide) ?_
          exact Hrec45 h50 ((k41 + 1) + 6) ((n42 + 12) + 800) r49.2 (x44 + 1)
  · refine lpG_ind (bot := (fun _ _ _ _ _ => none)) (B := LA_init_136 mc ms a0 r25 K34) (fun (r : Hp → Nat → Nat → Nat → Int32 → Option (Hp × Nat)) => ∀ (h51 : Hp), ∀ (k52 : Nat), ∀ (n53 : Nat), ∀ (z54 : Nat), ∀ (x55 : Int32), vO p l e (vR 4 mc ms) s m args below meth c D dA (vA h0 z0) 4 False Q k52 n53 h51 z54 [(0, .ref a0), (2, .ref r25.2), (3, .int x55)] 136 [] (r h51 k52 n53 z54 x55)) ?_ ?_ fu r29.1 ((((((((((0 + 1) + 1) + 1) + 1) + 1) + 1) + 1) + 1) + 1) + 3) ((((((((((0 + (4 : Int32).toNatClampNeg) + (4 : Int32).toNatClampNeg) + (4 : Int32).toNatClampNeg) + (4 : Int32).toNatClampNeg) + (1000 : Int32).toNatClampNeg) + 4) + 2) + 200) + 4) + 300) r29.2 0
    · intro h51 k52 n53 z54 x55
      exact v_none
    · intro rec56 Hrec56 h51 k52 n53 z54 x55
      unfold LA_init_136
      refine v_iload_n C dA_init_136 rfl 2 rfl ?_
      refine v_iconst (v := 4) C dA_init_137 (by decide) ?_
      refine v_icmp_ge (tgt := 183) C dA_init_138 (by decide) ?_ ?_
      · refine v_lv (lv' := [(0, .ref a0), (2, .ref r25.2)]) [0, 1] rfl ?_
        exact HK34 h51 k52 n53 z54
      · refine v_aload_n C dA_init_141 rfl 0 rfl ?_
        refine v_getR C v_cl4 (by decide) in_4 rfl w_203 dA_init_142 (fun a57 => ?_)
        refine v_iload_n C dA_init_145 rfl 2 rfl ?_
        refine v_new C v_cl3 in_3 ty_3 ty_3_ok w_67 w_142 w_52 fs_3 dA_init_146 (fun h58 => ?_)
        refine v_dup C dA_init_149 rfl ?_
        refine v_aload_n C dA_init_150 rfl 0 rfl ?_
        refine v_getI C v_cl4 (by decide) in_4 rfl w_201 dA_init_151 (fun x59 => ?_)
        refine v_aload_n C dA_init_154 rfl 1 rfl ?_
        refine v_gd fun hF => ?_
        refine v_bind fun r60 hr60 => ?_
        refine v_callI (N := 2) (As := [.int x59, .ref r25.2]) (st := [.ref z54, .int x55, .ref a57]) C (fun f => f.elim) (mT_init l 6 800 h58 (z54 + 1) z54 x59 r25.2 r60 hr60) rfl w_145 w_52 (by decide +kernel) ⟨Nat.le_of_ble_eq_true rfl, Nat.le_of_ble_eq_true rfl⟩ rfl rfl (Nat.le_of_ble_eq_true rfl) hF w_143 rfl w_144 dA_init_155 ?_
        refine v_aast C rfl rfl dA_init_158 (fun h61 => ?_)
        refine v_aload_n C dA_init_159 rfl 0 rfl ?_
        refine v_getR C v_cl4 (by decide) in_4 rfl w_204 dA_init_160 (fun a62 => ?_)
        refine v_iload_n C dA_init_163 rfl 2 rfl ?_
        refine v_new C v_cl3 in_3 ty_3 ty_3_ok w_67 w_142 w_52 fs_3 dA_init_164 (fun h63 => ?_)
        refine v_dup C dA_init_167 rfl ?_
        refine v_aload_n C dA_init_168 rfl 0 rfl ?_
        refine v_getI C v_cl4 (by decide) in_4 rfl w_201 dA_init_169 (fun x64 => ?_)
        refine v_aload_n C dA_init_172 rfl 1 rfl ?_
        refine v_gd fun hF => ?_
        refine v_bind fun r65 hr65 => ?_
        refine v_callI (N := 2) (As := [.int x64, .ref r25.2]) (st := [.ref r60.2, .int x55, .ref a62]) C (fun f => f.elim) (mT_init l 6 800 h63 (r60.2 + 1) r60.2 x64 r25.2 r65 hr65) rfl w_145 w_52 (by decide +kernel) ⟨Nat.le_of_ble_eq_true rfl, Nat.le_of_ble_eq_true rfl⟩ rfl rfl (Nat.le_of_ble_eq_true rfl) hF w_143 rfl w_144 dA_init_173 ?_
        refine v_aast C rfl rfl dA_init_176 (fun h66 => ?_)
        refine v_iinc (v := (x55 + 1)) (lv' := [(0, .ref a0), (2, .ref r25.2), (3, .int (x55 + 1))]) C dA_init_177 2 rfl rfl (by decide) [1, 2, 0] rfl ?_
        refine v_goto (tgt := 136) C dA_init_180 (by decide) ?_
        exact Hrec56 h66 ((((k52 + 1) + 6) + 1) + 6) ((((n53 + 12) + 800) + 12) + 800) r65.2 (x55 + 1)
theorem dA_isTree_0 : decode prog_1_method_26_code 0 = .ok (.iload_n 0, 1) := by decide +kernel
theorem dA_isTree_1 : decode prog_1_method_26_code 1 = .ok (.ifCond .lt 12, 3) := by decide +kernel
theorem dA_isTree_4 : decode prog_1_method_26_code 4 = .ok (.iload_n 0, 1) := by decide +kernel
theorem dA_isTree_5 : decode prog_1_method_26_code 5 = .ok (.iconst 4, 1) := by decide +kernel
theorem dA_isTree_6 : decode prog_1_method_26_code 6 = .ok (.if_icmp .ge 7, 3) := by decide +kernel
theorem dA_isTree_9 : decode prog_1_method_26_code 9 = .ok (.iconst 1, 1) := by decide +kernel
theorem dA_isTree_10 : decode prog_1_method_26_code 10 = .ok (.goto 4, 3) := by decide +kernel
theorem dA_isTree_13 : decode prog_1_method_26_code 13 = .ok (.iconst 0, 1) := by decide +kernel
theorem dA_isTree_14 : decode prog_1_method_26_code 14 = .ok (.ireturn, 1) := by decide +kernel
def FA_isTree (h0 : Hp) (p0 : Int32) : Option Int32 :=
  jn (fun (y1 : Int32) =>
  gd (y1 = 0 ∨ y1 = 1) (some y1))
  (fun (j2 : Int32 → Option Int32) =>
  jn (j2 0)
  (fun (j3 : Option Int32) =>
  if p0 < 0 then
    (j3)
  else
    (if 4 ≤ p0 then
      (j3)
    else
      (j2 1))))
set_option maxRecDepth 100000 in
set_option maxHeartbeats 4000000 in
theorem mA_isTree (l : Launch) (h0 : Hp) (z0 : Nat) (p0 : Int32) (r : Int32) (hr : FA_isTree h0 p0 = some r) : vM True l yA_isTree (Cond.code yA_isTree prog_1_method_26_code 1 (some (.boolean)) :: gW) 0 [.int p0] h0 z0 h0 z0 (some (.int r)) 0 0 := by
  refine vM.of (by decide) rfl (Nat.le_of_ble_eq_true rfl) ?_
  intro p e s m args below meth c D dA C hin2
  refine (?_ : vO p l e (vR 0 0 0) s m args below meth c D dA (vA h0 z0) 1 True (fun r : Int32 => MQ below (vQc True h0 z0 D dA h0 z0 (some (.int r))) args s 0 0 (vAr True h0 z0)) 0 0 h0 z0 [(0, .int p0)] 0 [] (FA_isTree h0 p0)) r hr
  obtain ⟨Q, hQ⟩ : ∃ Q : Int32 → State → Prop, Q = (fun r : Int32 => MQ below (vQc True h0 z0 D dA h0 z0 (some (.int r))) args s 0 0 (vAr True h0 z0)) := ⟨_, rfl⟩
  rw [← hQ]
  unfold FA_isTree
  refine v_iload_n C dA_isTree_0 rfl 0 rfl ?_
  refine v_jn (fun (j : Int32 → Option Int32) => ∀ (y1 : Int32), vO p l e (vR 0 0 0) s m args below meth c D dA (vA h0 z0) 1 True Q 0 0 h0 z0 [] 14 [.int y1] (j y1)) ?_ (fun j2 Hj2 => ?_)
  · intro y1
    exact v_zret C dA_isTree_14 (by rw [hQ])
  · refine v_jn (fun (j : Option Int32) => vO p l e (vR 0 0 0) s m args below meth c D dA (vA h0 z0) 1 True Q 0 0 h0 z0 [] 13 [] j) ?_ (fun j3 Hj3 => ?_)
    · refine v_iconst (v := 0) C dA_isTree_13 (by decide) ?_
      exact Hj2 0
    · refine v_if_lt (tgt := 13) C dA_isTree_1 (by decide) ?_ ?_
      · refine v_lv (lv' := []) [] rfl ?_
        exact Hj3
      · refine v_iload_n C dA_isTree_4 rfl 0 rfl ?_
        refine v_iconst (v := 4) C dA_isTree_5 (by decide) ?_
        refine v_icmp_ge (tgt := 13) C dA_isTree_6 (by decide) ?_ ?_
        · refine v_lv (lv' := []) [] rfl ?_
          exact Hj3
        · refine v_iconst (v := 1) C dA_isTree_9 (by decide) ?_
          refine v_goto (tgt := 14) C dA_isTree_10 (by decide) ?_
          refine v_lv (lv' := []) [] rfl ?_
          exact Hj2 1
theorem dT_beginSplayed_0 : decode prog_5_method_4_code 0 = .ok (.aload_n 0, 1) := by decide +kernel
theorem dT_beginSplayed_1 : decode prog_5_method_4_code 1 = .ok (.iconst 1, 1) := by decide +kernel
theorem dT_beginSplayed_2 : decode prog_5_method_4_code 2 = .ok (.putfield 9, 3) := by decide +kernel
theorem dT_beginSplayed_5 : decode prog_5_method_4_code 5 = .ok (.aload_n 0, 1) := by decide +kernel
theorem dT_beginSplayed_6 : decode prog_5_method_4_code 6 = .ok (.iconst 0, 1) := by decide +kernel
theorem dT_beginSplayed_7 : decode prog_5_method_4_code 7 = .ok (.putfield 21, 3) := by decide +kernel
theorem dT_beginSplayed_10 : decode prog_5_method_4_code 10 = .ok (.aload_n 0, 1) := by decide +kernel
theorem dT_beginSplayed_11 : decode prog_5_method_4_code 11 = .ok (.iconst (-1), 1) := by decide +kernel
theorem dT_beginSplayed_12 : decode prog_5_method_4_code 12 = .ok (.putfield 18, 3) := by decide +kernel
theorem dT_beginSplayed_15 : decode prog_5_method_4_code 15 = .ok (.aload_n 0, 1) := by decide +kernel
theorem dT_beginSplayed_16 : decode prog_5_method_4_code 16 = .ok (.iconst 2, 1) := by decide +kernel
theorem dT_beginSplayed_17 : decode prog_5_method_4_code 17 = .ok (.aload_n 0, 1) := by decide +kernel
theorem dT_beginSplayed_18 : decode prog_5_method_4_code 18 = .ok (.getfield 24, 3) := by decide +kernel
theorem dT_beginSplayed_21 : decode prog_5_method_4_code 21 = .ok (.imul, 1) := by decide +kernel
theorem dT_beginSplayed_22 : decode prog_5_method_4_code 22 = .ok (.iconst 1, 1) := by decide +kernel
theorem dT_beginSplayed_23 : decode prog_5_method_4_code 23 = .ok (.isub, 1) := by decide +kernel
theorem dT_beginSplayed_24 : decode prog_5_method_4_code 24 = .ok (.putfield 15, 3) := by decide +kernel
theorem dT_beginSplayed_27 : decode prog_5_method_4_code 27 = .ok (.aload_n 0, 1) := by decide +kernel
theorem dT_beginSplayed_28 : decode prog_5_method_4_code 28 = .ok (.getfield 42, 3) := by decide +kernel
theorem dT_beginSplayed_31 : decode prog_5_method_4_code 31 = .ok (.iconst 0, 1) := by decide +kernel
theorem dT_beginSplayed_32 : decode prog_5_method_4_code 32 = .ok (.iconst (-1), 1) := by decide +kernel
theorem dT_beginSplayed_33 : decode prog_5_method_4_code 33 = .ok (.iastore, 1) := by decide +kernel
theorem dT_beginSplayed_34 : decode prog_5_method_4_code 34 = .ok (.iconst 0, 1) := by decide +kernel
theorem dT_beginSplayed_35 : decode prog_5_method_4_code 35 = .ok (.istore_n 1, 1) := by decide +kernel
theorem dT_beginSplayed_36 : decode prog_5_method_4_code 36 = .ok (.iload_n 1, 1) := by decide +kernel
theorem dT_beginSplayed_37 : decode prog_5_method_4_code 37 = .ok (.aload_n 0, 1) := by decide +kernel
theorem dT_beginSplayed_38 : decode prog_5_method_4_code 38 = .ok (.getfield 24, 3) := by decide +kernel
theorem dT_beginSplayed_41 : decode prog_5_method_4_code 41 = .ok (.iconst 1, 1) := by decide +kernel
theorem dT_beginSplayed_42 : decode prog_5_method_4_code 42 = .ok (.isub, 1) := by decide +kernel
theorem dT_beginSplayed_43 : decode prog_5_method_4_code 43 = .ok (.if_icmp .ge 26, 3) := by decide +kernel
theorem dT_beginSplayed_46 : decode prog_5_method_4_code 46 = .ok (.aload_n 0, 1) := by decide +kernel
theorem dT_beginSplayed_47 : decode prog_5_method_4_code 47 = .ok (.iload_n 1, 1) := by decide +kernel
theorem dT_beginSplayed_48 : decode prog_5_method_4_code 48 = .ok (.iconst 0, 1) := by decide +kernel
theorem dT_beginSplayed_49 : decode prog_5_method_4_code 49 = .ok (.iconst (-1), 1) := by decide +kernel
theorem dT_beginSplayed_50 : decode prog_5_method_4_code 50 = .ok (.iconst 2, 1) := by decide +kernel
theorem dT_beginSplayed_51 : decode prog_5_method_4_code 51 = .ok (.iload_n 1, 1) := by decide +kernel
theorem dT_beginSplayed_52 : decode prog_5_method_4_code 52 = .ok (.imul, 1) := by decide +kernel
theorem dT_beginSplayed_53 : decode prog_5_method_4_code 53 = .ok (.iconst 1, 1) := by decide +kernel
theorem dT_beginSplayed_54 : decode prog_5_method_4_code 54 = .ok (.iadd, 1) := by decide +kernel
theorem dT_beginSplayed_55 : decode prog_5_method_4_code 55 = .ok (.iconst 2, 1) := by decide +kernel
theorem dT_beginSplayed_56 : decode prog_5_method_4_code 56 = .ok (.iload_n 1, 1) := by decide +kernel
theorem dT_beginSplayed_57 : decode prog_5_method_4_code 57 = .ok (.imul, 1) := by decide +kernel
theorem dT_beginSplayed_58 : decode prog_5_method_4_code 58 = .ok (.iconst 2, 1) := by decide +kernel
theorem dT_beginSplayed_59 : decode prog_5_method_4_code 59 = .ok (.iadd, 1) := by decide +kernel
theorem dT_beginSplayed_60 : decode prog_5_method_4_code 60 = .ok (.invokevirtual 60, 3) := by decide +kernel
theorem dT_beginSplayed_63 : decode prog_5_method_4_code 63 = .ok (.iinc 1 1, 3) := by decide +kernel
theorem dT_beginSplayed_66 : decode prog_5_method_4_code 66 = .ok (.goto (-30), 3) := by decide +kernel
theorem dT_beginSplayed_69 : decode prog_5_method_4_code 69 = .ok (.iconst 0, 1) := by decide +kernel
theorem dT_beginSplayed_70 : decode prog_5_method_4_code 70 = .ok (.istore_n 1, 1) := by decide +kernel
theorem dT_beginSplayed_71 : decode prog_5_method_4_code 71 = .ok (.iload_n 1, 1) := by decide +kernel
theorem dT_beginSplayed_72 : decode prog_5_method_4_code 72 = .ok (.aload_n 0, 1) := by decide +kernel
theorem dT_beginSplayed_73 : decode prog_5_method_4_code 73 = .ok (.getfield 24, 3) := by decide +kernel
theorem dT_beginSplayed_76 : decode prog_5_method_4_code 76 = .ok (.if_icmp .ge 25, 3) := by decide +kernel
theorem dT_beginSplayed_79 : decode prog_5_method_4_code 79 = .ok (.aload_n 0, 1) := by decide +kernel
theorem dT_beginSplayed_80 : decode prog_5_method_4_code 80 = .ok (.aload_n 0, 1) := by decide +kernel
theorem dT_beginSplayed_81 : decode prog_5_method_4_code 81 = .ok (.getfield 24, 3) := by decide +kernel
theorem dT_beginSplayed_84 : decode prog_5_method_4_code 84 = .ok (.iconst 1, 1) := by decide +kernel
theorem dT_beginSplayed_85 : decode prog_5_method_4_code 85 = .ok (.isub, 1) := by decide +kernel
theorem dT_beginSplayed_86 : decode prog_5_method_4_code 86 = .ok (.iload_n 1, 1) := by decide +kernel
theorem dT_beginSplayed_87 : decode prog_5_method_4_code 87 = .ok (.iadd, 1) := by decide +kernel
theorem dT_beginSplayed_88 : decode prog_5_method_4_code 88 = .ok (.iconst 0, 1) := by decide +kernel
theorem dT_beginSplayed_89 : decode prog_5_method_4_code 89 = .ok (.iload_n 1, 1) := by decide +kernel
theorem dT_beginSplayed_90 : decode prog_5_method_4_code 90 = .ok (.iconst (-1), 1) := by decide +kernel
theorem dT_beginSplayed_91 : decode prog_5_method_4_code 91 = .ok (.iconst (-1), 1) := by decide +kernel
theorem dT_beginSplayed_92 : decode prog_5_method_4_code 92 = .ok (.invokevirtual 60, 3) := by decide +kernel
theorem dT_beginSplayed_95 : decode prog_5_method_4_code 95 = .ok (.iinc 1 1, 3) := by decide +kernel
theorem dT_beginSplayed_98 : decode prog_5_method_4_code 98 = .ok (.goto (-27), 3) := by decide +kernel
theorem dT_beginSplayed_101 : decode prog_5_method_4_code 101 = .ok (.return_, 1) := by decide +kernel
def LT_beginSplayed_71 (a0 : Nat) (K11 : Hp → Option Hp) (rec14 : Hp → Int32 → Option Hp) (h12 : Hp) (x13 : Int32) : Option Hp :=
  gI h12 a0 3 0 (fun x15 =>
  if x15 ≤ x13 then
    (K11 h12)
  else
    (gI h12 a0 3 0 (fun x16 =>
    gd (isO h12 a0 3 = true) ((FT_fill h12 a0 ((x16 - 1) + x13) 0 x13 (-1) (-1)).bind (fun r18 =>
    rec14 r18 (x13 + 1))))))
def LT_beginSplayed_36 (a0 : Nat) (K9 : Hp → Option Hp) (rec21 : Hp → Int32 → Option Hp) (h19 : Hp) (x20 : Int32) : Option Hp :=
  gI h19 a0 3 0 (fun x22 =>
  if (x22 - 1) ≤ x20 then
    (K9 h19)
  else
    (gd (isO h19 a0 3 = true) ((FT_fill h19 a0 x20 0 (-1) ((2 * x20) + 1) ((2 * x20) + 2)).bind (fun r24 =>
    rec21 r24 (x20 + 1)))))
def FT_beginSplayed (h0 : Hp) (a0 : Nat) : Option Hp :=
  pF h0 a0 3 8 (.int 1) (fun h1 =>
  pF h1 a0 3 11 (.int 0) (fun h2 =>
  pF h2 a0 3 10 (.int (-1)) (fun h3 =>
  gI h3 a0 3 0 (fun x4 =>
  pF h3 a0 3 9 (.int ((2 * x4) - 1)) (fun h5 =>
  gR h5 a0 3 4 (fun a6 =>
  stI h5 a6 0 0 (-1) (fun h7 =>
  jn (fun (h8 : Hp) =>
  jn (fun (h10 : Hp) =>
  some h10)
  (fun (K11 : Hp → Option Hp) =>
  lpG (fun _ _ => none) fu (LT_beginSplayed_71 a0 K11) h8 0))
  (fun (K9 : Hp → Option Hp) =>
  lpG (fun _ _ => none) fu (LT_beginSplayed_36 a0 K9) h7 0))))))))
set_option maxRecDepth 100000 in
set_option maxHeartbeats 4000000 in
theorem mT_beginSplayed (l : Launch) (h0 : Hp) (z0 : Nat) (a0 : Nat) (r : Hp) (hr : FT_beginSplayed h0 a0 = some r) : vM False l yT_beginSplayed (Cond.code yT_beginSplayed prog_5_method_4_code 2 none :: gW) 2 [.ref a0] h0 z0 r z0 none 0 0 := by
  refine vM.of (by decide) rfl (Nat.le_of_ble_eq_true rfl) ?_
  intro p e s m args below meth c D dA C hin2
  refine (?_ : vO p l e (vR 2 0 0) s m args below meth c D dA (vA h0 z0) 2 False (fun r : Hp => MQ below (vQc False h0 z0 D dA r z0 none) args s 0 0 (vAr False h0 z0)) 0 0 h0 z0 [(0, .ref a0)] 0 [] (FT_beginSplayed h0 a0)) r hr
  obtain ⟨Q, hQ⟩ : ∃ Q : Hp → State → Prop, Q = (fun r : Hp => MQ below (vQc False h0 z0 D dA r z0 none) args s 0 0 (vAr False h0 z0)) := ⟨_, rfl⟩
  rw [← hQ]
  unfold FT_beginSplayed
  refine v_aload_n C dT_beginSplayed_0 rfl 0 rfl ?_
  refine v_iconst (v := 1) C dT_beginSplayed_1 (by decide) ?_
  refine v_put C v_cl3 (by decide) in_3 ty_3 ty_3_ok nm_3 rfl w_168 rfl (ty := .int) (by decide +kernel) rfl rfl dT_beginSplayed_2 (fun h1 => ?_)
  refine v_aload_n C dT_beginSplayed_5 rfl 0 rfl ?_
  refine v_iconst (v := 0) C dT_beginSplayed_6 (by decide) ?_
  refine v_put C v_cl3 (by decide) in_3 ty_3 ty_3_ok nm_3 rfl w_174 rfl (ty := .int) (by decide +kernel) rfl rfl dT_beginSplayed_7 (fun h2 => ?_)
  refine v_aload_n C dT_beginSplayed_10 rfl 0 rfl ?_
  refine v_iconst (v := (-1)) C dT_beginSplayed_11 (by decide) ?_
  refine v_put C v_cl3 (by decide) in_3 ty_3 ty_3_ok nm_3 rfl w_172 rfl (ty := .int) (by decide +kernel) rfl rfl dT_beginSplayed_12 (fun h3 => ?_)
  refine v_aload_n C dT_beginSplayed_15 rfl 0 rfl ?_
  refine v_iconst (v := 2) C dT_beginSplayed_16 (by decide) ?_
  refine v_aload_n C dT_beginSplayed_17 rfl 0 rfl ?_
  refine v_getI C v_cl3 (by decide) in_3 rfl w_160 dT_beginSplayed_18 (fun x4 => ?_)
  refine v_imul C dT_beginSplayed_21 ?_
  refine v_iconst (v := 1) C dT_beginSplayed_22 (by decide) ?_
  refine v_isub C dT_beginSplayed_23 ?_
  refine v_put C v_cl3 (by decide) in_3 ty_3 ty_3_ok nm_3 rfl w_170 rfl (ty := .int) (by decide +kernel) rfl rfl dT_beginSplayed_24 (fun h5 => ?_)
  refine v_aload_n C dT_beginSplayed_27 rfl 0 rfl ?_
  refine v_getR C v_cl3 (by decide) in_3 rfl w_164 dT_beginSplayed_28 (fun a6 => ?_)
  refine v_iconst (v := 0) C dT_beginSplayed_31 (by decide) ?_
  refine v_iconst (v := (-1)) C dT_beginSplayed_32 (by decide) ?_
  refine v_iast C rfl dT_beginSplayed_33 (fun h7 => ?_)
  refine v_iconst (v := 0) C dT_beginSplayed_34 (by decide) ?_
  refine v_istore_n (lv' := [(0, .ref a0), (1, .int 0)]) C dT_beginSplayed_35 rfl (by decide) [1, 0] rfl ?_
  refine v_jn (fun (j : Hp → Option Hp) => ∀ (h8 : Hp), vO p l e (vR 2 0 0) s m args below meth c D dA (vA h0 z0) 2 False Q 0 0 h8 z0 [(0, .ref a0)] 69 [] (j h8)) ?_ (fun K9 HK9 => ?_)
  · intro h8
    refine v_iconst (v := 0) C dT_beginSplayed_69 (by decide) ?_
    refine v_istore_n (lv' := [(0, .ref a0), (1, .int 0)]) C dT_beginSplayed_70 rfl (by decide) [1, 0] rfl ?_
    refine v_jn (fun (j : Hp → Option Hp) => ∀ (h10 : Hp), vO p l e (vR 2 0 0) s m args below meth c D dA (vA h0 z0) 2 False Q 0 0 h10 z0 [] 101 [] (j h10)) ?_ (fun K11 HK11 => ?_)
    · intro h10
      exact v_vret C dT_beginSplayed_101 (by rw [hQ])
    · refine lpG_ind (bot := (fun _ _ => none)) (B := LT_beginSplayed_71 a0 K11) (fun (r : Hp → Int32 → Option Hp) => ∀ (h12 : Hp), ∀ (x13 : Int32), vO p l e (vR 2 0 0) s m args below meth c D dA (vA h0 z0) 2 False Q 0 0 h12 z0 [(0, .ref a0), (1, .int x13)] 71 [] (r h12 x13)) ?_ ?_ fu h8 0
      · intro h12 x13
        exact v_none
      · intro rec14 Hrec14 h12 x13
        unfold LT_beginSplayed_71
        refine v_iload_n C dT_beginSplayed_71 rfl 1 rfl ?_
        refine v_aload_n C dT_beginSplayed_72 rfl 0 rfl ?_
        refine v_getI C v_cl3 (by decide) in_3 rfl w_160 dT_beginSplayed_73 (fun x15 => ?_)
        refine v_icmp_ge (tgt := 101) C dT_beginSplayed_76 (by decide) ?_ ?_
        · refine v_lv (lv' := []) [] rfl ?_
          exact HK11 h12
        · refine v_aload_n C dT_beginSplayed_79 rfl 0 rfl ?_
          refine v_aload_n C dT_beginSplayed_80 rfl 0 rfl ?_
          refine v_getI C v_cl3 (by decide) in_3 rfl w_160 dT_beginSplayed_81 (fun x16 => ?_)
          refine v_iconst (v := 1) C dT_beginSplayed_84 (by decide) ?_
          refine v_isub C dT_beginSplayed_85 ?_
          refine v_iload_n C dT_beginSplayed_86 rfl 1 rfl ?_
          refine v_iadd C dT_beginSplayed_87 ?_
          refine v_iconst (v := 0) C dT_beginSplayed_88 (by decide) ?_
          refine v_iload_n C dT_beginSplayed_89 rfl 1 rfl ?_
          refine v_iconst (v := (-1)) C dT_beginSplayed_90 (by decide) ?_
          refine v_iconst (v := (-1)) C dT_beginSplayed_91 (by decide) ?_
          refine v_gd fun hO17 => ?_
          refine v_bind fun r18 hr18 => ?_
          refine v_callV0 (N := 5) (As := [.int ((x16 - 1) + x13), .int 0, .int x13, .int (-1), .int (-1)]) (st := []) C (fun f => f.elim) (mT_fill l h12 z0 a0 ((x16 - 1) + x13) 0 x13 (-1) (-1) r18 hr18) rfl w_155 w_52 (by decide +kernel) ⟨Nat.le_of_ble_eq_true rfl, Nat.le_of_ble_eq_true rfl⟩ rfl rfl (Nat.le_of_ble_eq_true rfl) ⟨Nat.zero_le _, Nat.zero_le _⟩ w_152 w_154 w_1 v_cl3 rfl hO17 dT_beginSplayed_92 ?_
          refine v_iinc (v := (x13 + 1)) (lv' := [(0, .ref a0), (1, .int (x13 + 1))]) C dT_beginSplayed_95 1 rfl rfl (by decide) [1, 0] rfl ?_
          refine v_goto (tgt := 71) C dT_beginSplayed_98 (by decide) ?_
          exact Hrec14 r18 (x13 + 1)
  · refine lpG_ind (bot := (fun _ _ => none)) (B := LT_beginSplayed_36 a0 K9) (fun (r : Hp → Int32 → Option Hp) => ∀ (h19 : Hp), ∀ (x20 : Int32), vO p l e (vR 2 0 0) s m args below meth c D dA (vA h0 z0) 2 False Q 0 0 h19 z0 [(0, .ref a0), (1, .int x20)] 36 [] (r h19 x20)) ?_ ?_ fu h7 0
    · intro h19 x20
      exact v_none
    · intro rec21 Hrec21 h19 x20
      unfold LT_beginSplayed_36
      refine v_iload_n C dT_beginSplayed_36 rfl 1 rfl ?_
      refine v_aload_n C dT_beginSplayed_37 rfl 0 rfl ?_
      refine v_getI C v_cl3 (by decide) in_3 rfl w_160 dT_beginSplayed_38 (fun x22 => ?_)
      refine v_iconst (v := 1) C dT_beginSplayed_41 (by decide) ?_
      refine v_isub C dT_beginSplayed_42 ?_
      refine v_icmp_ge (tgt := 69) C dT_beginSplayed_43 (by decide) ?_ ?_
      · refine v_lv (lv' := [(0, .ref a0)]) [0] rfl ?_
        exact HK9 h19
      · refine v_aload_n C dT_beginSplayed_46 rfl 0 rfl ?_
        refine v_iload_n C dT_beginSplayed_47 rfl 1 rfl ?_
        refine v_iconst (v := 0) C dT_beginSplayed_48 (by decide) ?_
        refine v_iconst (v := (-1)) C dT_beginSplayed_49 (by decide) ?_
        refine v_iconst (v := 2) C dT_beginSplayed_50 (by decide) ?_
        refine v_iload_n C dT_beginSplayed_51 rfl 1 rfl ?_
        refine v_imul C dT_beginSplayed_52 ?_
        refine v_iconst (v := 1) C dT_beginSplayed_53 (by decide) ?_
        refine v_iadd C dT_beginSplayed_54 ?_
        refine v_iconst (v := 2) C dT_beginSplayed_55 (by decide) ?_
        refine v_iload_n C dT_beginSplayed_56 rfl 1 rfl ?_
        refine v_imul C dT_beginSplayed_57 ?_
        refine v_iconst (v := 2) C dT_beginSplayed_58 (by decide) ?_
        refine v_iadd C dT_beginSplayed_59 ?_
        refine v_gd fun hO23 => ?_
        refine v_bind fun r24 hr24 => ?_
        refine v_callV0 (N := 5) (As := [.int x20, .int 0, .int (-1), .int ((2 * x20) + 1), .int ((2 * x20) + 2)]) (st := []) C (fun f => f.elim) (mT_fill l h19 z0 a0 x20 0 (-1) ((2 * x20) + 1) ((2 * x20) + 2) r24 hr24) rfl w_155 w_52 (by decide +kernel) ⟨Nat.le_of_ble_eq_true rfl, Nat.le_of_ble_eq_true rfl⟩ rfl rfl (Nat.le_of_ble_eq_true rfl) ⟨Nat.zero_le _, Nat.zero_le _⟩ w_152 w_154 w_1 v_cl3 rfl hO23 dT_beginSplayed_60 ?_
        refine v_iinc (v := (x20 + 1)) (lv' := [(0, .ref a0), (1, .int (x20 + 1))]) C dT_beginSplayed_63 1 rfl rfl (by decide) [1, 0] rfl ?_
        refine v_goto (tgt := 36) C dT_beginSplayed_66 (by decide) ?_
        exact Hrec21 r24 (x20 + 1)
theorem dT_beginAs_0 : decode prog_5_method_2_code 0 = .ok (.iload_n 1, 1) := by decide +kernel
theorem dT_beginAs_1 : decode prog_5_method_2_code 1 = .ok (.iconst 1, 1) := by decide +kernel
theorem dT_beginAs_2 : decode prog_5_method_2_code 2 = .ok (.if_icmp .ne 10, 3) := by decide +kernel
theorem dT_beginAs_5 : decode prog_5_method_2_code 5 = .ok (.aload_n 0, 1) := by decide +kernel
theorem dT_beginAs_6 : decode prog_5_method_2_code 6 = .ok (.invokevirtual 57, 3) := by decide +kernel
theorem dT_beginAs_9 : decode prog_5_method_2_code 9 = .ok (.goto 7, 3) := by decide +kernel
theorem dT_beginAs_12 : decode prog_5_method_2_code 12 = .ok (.aload_n 0, 1) := by decide +kernel
theorem dT_beginAs_13 : decode prog_5_method_2_code 13 = .ok (.invokevirtual 54, 3) := by decide +kernel
theorem dT_beginAs_16 : decode prog_5_method_2_code 16 = .ok (.return_, 1) := by decide +kernel
def FT_beginAs (h0 : Hp) (a0 : Nat) (p1 : Int32) : Option Hp :=
  jn (fun (h1 : Hp) =>
  some h1)
  (fun (j2 : Hp → Option Hp) =>
  if p1 = 1 then
    (gd (isO h0 a0 3 = true) ((FT_beginSplayed h0 a0).bind (fun r6 =>
    j2 r6)))
  else
    (gd (isO h0 a0 3 = true) ((FT_beginCounted h0 a0).bind (fun r4 =>
    j2 r4))))
set_option maxRecDepth 100000 in
set_option maxHeartbeats 4000000 in
theorem mT_beginAs (l : Launch) (h0 : Hp) (z0 : Nat) (a0 : Nat) (p1 : Int32) (r : Hp) (hr : FT_beginAs h0 a0 p1 = some r) : vM False l yT_beginAs (Cond.code yT_beginAs prog_5_method_2_code 2 none :: gW) 3 [.ref a0, .int p1] h0 z0 r z0 none 0 0 := by
  refine vM.of (by decide) rfl (Nat.le_of_ble_eq_true rfl) ?_
  intro p e s m args below meth c D dA C hin2
  refine (?_ : vO p l e (vR 3 0 0) s m args below meth c D dA (vA h0 z0) 2 False (fun r : Hp => MQ below (vQc False h0 z0 D dA r z0 none) args s 0 0 (vAr False h0 z0)) 0 0 h0 z0 [(0, .ref a0), (1, .int p1)] 0 [] (FT_beginAs h0 a0 p1)) r hr
  obtain ⟨Q, hQ⟩ : ∃ Q : Hp → State → Prop, Q = (fun r : Hp => MQ below (vQc False h0 z0 D dA r z0 none) args s 0 0 (vAr False h0 z0)) := ⟨_, rfl⟩
  rw [← hQ]
  unfold FT_beginAs
  refine v_iload_n C dT_beginAs_0 rfl 1 rfl ?_
  refine v_iconst (v := 1) C dT_beginAs_1 (by decide) ?_
  refine v_jn (fun (j : Hp → Option Hp) => ∀ (h1 : Hp), vO p l e (vR 3 0 0) s m args below meth c D dA (vA h0 z0) 2 False Q 0 0 h1 z0 [] 16 [] (j h1)) ?_ (fun j2 Hj2 => ?_)
  · intro h1
    exact v_vret C dT_beginAs_16 (by rw [hQ])
  · refine v_icmp_ne (tgt := 12) C dT_beginAs_2 (by decide) ?_ ?_
    · refine v_aload_n C dT_beginAs_12 rfl 0 rfl ?_
      refine v_gd fun hO3 => ?_
      refine v_bind fun r4 hr4 => ?_
      refine v_callV0 (N := 0) (As := []) (st := []) C (fun f => f.elim) (mT_beginCounted l h0 z0 a0 r4 hr4) rfl w_151 w_52 (by decide +kernel) ⟨Nat.le_of_ble_eq_true rfl, Nat.le_of_ble_eq_true rfl⟩ rfl rfl (Nat.le_of_ble_eq_true rfl) ⟨Nat.zero_le _, Nat.zero_le _⟩ w_148 w_150 w_0 v_cl3 rfl hO3 dT_beginAs_13 ?_
      refine v_lv (lv' := []) [] rfl ?_
      exact Hj2 r4
    · refine v_aload_n C dT_beginAs_5 rfl 0 rfl ?_
      refine v_gd fun hO5 => ?_
      refine v_bind fun r6 hr6 => ?_
      refine v_callV0 (N := 0) (As := []) (st := []) C (fun f => f.elim) (mT_beginSplayed l h0 z0 a0 r6 hr6) rfl w_252 w_52 (by decide +kernel) ⟨Nat.le_of_ble_eq_true rfl, Nat.le_of_ble_eq_true rfl⟩ rfl rfl (Nat.le_of_ble_eq_true rfl) ⟨Nat.zero_le _, Nat.zero_le _⟩ w_249 w_251 w_2 v_cl3 rfl hO5 dT_beginAs_6 ?_
      refine v_goto (tgt := 16) C dT_beginAs_9 (by decide) ?_
      refine v_lv (lv' := []) [] rfl ?_
      exact Hj2 r6
theorem dR_begin_0 : decode prog_4_method_2_code 0 = .ok (.aload_n 0, 1) := by decide +kernel
theorem dR_begin_1 : decode prog_4_method_2_code 1 = .ok (.iconst (-1), 1) := by decide +kernel
theorem dR_begin_2 : decode prog_4_method_2_code 2 = .ok (.putfield 9, 3) := by decide +kernel
theorem dR_begin_5 : decode prog_4_method_2_code 5 = .ok (.aload_n 0, 1) := by decide +kernel
theorem dR_begin_6 : decode prog_4_method_2_code 6 = .ok (.iconst 0, 1) := by decide +kernel
theorem dR_begin_7 : decode prog_4_method_2_code 7 = .ok (.putfield 15, 3) := by decide +kernel
theorem dR_begin_10 : decode prog_4_method_2_code 10 = .ok (.aload_n 0, 1) := by decide +kernel
theorem dR_begin_11 : decode prog_4_method_2_code 11 = .ok (.iconst 0, 1) := by decide +kernel
theorem dR_begin_12 : decode prog_4_method_2_code 12 = .ok (.putfield 18, 3) := by decide +kernel
theorem dR_begin_15 : decode prog_4_method_2_code 15 = .ok (.aload_n 0, 1) := by decide +kernel
theorem dR_begin_16 : decode prog_4_method_2_code 16 = .ok (.iconst 0, 1) := by decide +kernel
theorem dR_begin_17 : decode prog_4_method_2_code 17 = .ok (.putfield 21, 3) := by decide +kernel
theorem dR_begin_20 : decode prog_4_method_2_code 20 = .ok (.return_, 1) := by decide +kernel
def FR_begin (h0 : Hp) (a0 : Nat) : Option Hp :=
  pF h0 a0 2 0 (.int (-1)) (fun h1 =>
  pF h1 a0 2 1 (.int 0) (fun h2 =>
  pF h2 a0 2 2 (.int 0) (fun h3 =>
  pF h3 a0 2 3 (.int 0) (fun h4 =>
  some h4))))
set_option maxRecDepth 100000 in
set_option maxHeartbeats 4000000 in
theorem mR_begin (l : Launch) (h0 : Hp) (z0 : Nat) (a0 : Nat) (r : Hp) (hr : FR_begin h0 a0 = some r) : vM False l yR_begin (Cond.code yR_begin prog_4_method_2_code 1 none :: gW) 0 [.ref a0] h0 z0 r z0 none 0 0 := by
  refine vM.of (by decide) rfl (Nat.le_of_ble_eq_true rfl) ?_
  intro p e s m args below meth c D dA C hin2
  refine (?_ : vO p l e (vR 0 0 0) s m args below meth c D dA (vA h0 z0) 1 False (fun r : Hp => MQ below (vQc False h0 z0 D dA r z0 none) args s 0 0 (vAr False h0 z0)) 0 0 h0 z0 [(0, .ref a0)] 0 [] (FR_begin h0 a0)) r hr
  obtain ⟨Q, hQ⟩ : ∃ Q : Hp → State → Prop, Q = (fun r : Hp => MQ below (vQc False h0 z0 D dA r z0 none) args s 0 0 (vAr False h0 z0)) := ⟨_, rfl⟩
  rw [← hQ]
  unfold FR_begin
  refine v_aload_n C dR_begin_0 rfl 0 rfl ?_
  refine v_iconst (v := (-1)) C dR_begin_1 (by decide) ?_
  refine v_put C v_cl2 (by decide) in_2 ty_2 ty_2_ok nm_2 rfl w_75 rfl (ty := .int) (by decide +kernel) rfl rfl dR_begin_2 (fun h1 => ?_)
  refine v_aload_n C dR_begin_5 rfl 0 rfl ?_
  refine v_iconst (v := 0) C dR_begin_6 (by decide) ?_
  refine v_put C v_cl2 (by decide) in_2 ty_2 ty_2_ok nm_2 rfl w_76 rfl (ty := .int) (by decide +kernel) rfl rfl dR_begin_7 (fun h2 => ?_)
  refine v_aload_n C dR_begin_10 rfl 0 rfl ?_
  refine v_iconst (v := 0) C dR_begin_11 (by decide) ?_
  refine v_put C v_cl2 (by decide) in_2 ty_2 ty_2_ok nm_2 rfl w_78 rfl (ty := .int) (by decide +kernel) rfl rfl dR_begin_12 (fun h3 => ?_)
  refine v_aload_n C dR_begin_15 rfl 0 rfl ?_
  refine v_iconst (v := 0) C dR_begin_16 (by decide) ?_
  refine v_put C v_cl2 (by decide) in_2 ty_2 ty_2_ok nm_2 rfl w_80 rfl (ty := .int) (by decide +kernel) rfl rfl dR_begin_17 (fun h4 => ?_)
  exact v_vret C dR_begin_20 (by rw [hQ])
theorem dR_leaveCodeOf_0 : decode prog_4_method_4_code 0 = .ok (.aload_n 0, 1) := by decide +kernel
theorem dR_leaveCodeOf_1 : decode prog_4_method_4_code 1 = .ok (.getfield 9, 3) := by decide +kernel
theorem dR_leaveCodeOf_4 : decode prog_4_method_4_code 4 = .ok (.iload_n 1, 1) := by decide +kernel
theorem dR_leaveCodeOf_5 : decode prog_4_method_4_code 5 = .ok (.if_icmp .ne 7, 3) := by decide +kernel
theorem dR_leaveCodeOf_8 : decode prog_4_method_4_code 8 = .ok (.aload_n 0, 1) := by decide +kernel
theorem dR_leaveCodeOf_9 : decode prog_4_method_4_code 9 = .ok (.invokevirtual 24, 3) := by decide +kernel
theorem dR_leaveCodeOf_12 : decode prog_4_method_4_code 12 = .ok (.return_, 1) := by decide +kernel
def FR_leaveCodeOf (h0 : Hp) (a0 : Nat) (p1 : Int32) : Option Hp :=
  gI h0 a0 2 0 (fun x1 =>
  jn (fun (h2 : Hp) =>
  some h2)
  (fun (j3 : Hp → Option Hp) =>
  if x1 = p1 then
    (gd (isO h0 a0 2 = true) ((FR_begin h0 a0).bind (fun r5 =>
    j3 r5)))
  else
    (j3 h0)))
set_option maxRecDepth 100000 in
set_option maxHeartbeats 4000000 in
theorem mR_leaveCodeOf (l : Launch) (h0 : Hp) (z0 : Nat) (a0 : Nat) (p1 : Int32) (r : Hp) (hr : FR_leaveCodeOf h0 a0 p1 = some r) : vM False l yR_leaveCodeOf (Cond.code yR_leaveCodeOf prog_4_method_4_code 2 none :: gW) 1 [.ref a0, .int p1] h0 z0 r z0 none 0 0 := by
  refine vM.of (by decide) rfl (Nat.le_of_ble_eq_true rfl) ?_
  intro p e s m args below meth c D dA C hin2
  refine (?_ : vO p l e (vR 1 0 0) s m args below meth c D dA (vA h0 z0) 2 False (fun r : Hp => MQ below (vQc False h0 z0 D dA r z0 none) args s 0 0 (vAr False h0 z0)) 0 0 h0 z0 [(0, .ref a0), (1, .int p1)] 0 [] (FR_leaveCodeOf h0 a0 p1)) r hr
  obtain ⟨Q, hQ⟩ : ∃ Q : Hp → State → Prop, Q = (fun r : Hp => MQ below (vQc False h0 z0 D dA r z0 none) args s 0 0 (vAr False h0 z0)) := ⟨_, rfl⟩
  rw [← hQ]
  unfold FR_leaveCodeOf
  refine v_aload_n C dR_leaveCodeOf_0 rfl 0 rfl ?_
  refine v_getI C v_cl2 (by decide) in_2 rfl w_75 dR_leaveCodeOf_1 (fun x1 => ?_)
  refine v_iload_n C dR_leaveCodeOf_4 rfl 1 rfl ?_
  refine v_jn (fun (j : Hp → Option Hp) => ∀ (h2 : Hp), vO p l e (vR 1 0 0) s m args below meth c D dA (vA h0 z0) 2 False Q 0 0 h2 z0 [] 12 [] (j h2)) ?_ (fun j3 Hj3 => ?_)
  · intro h2
    exact v_vret C dR_leaveCodeOf_12 (by rw [hQ])
  · refine v_icmp_ne (tgt := 12) C dR_leaveCodeOf_5 (by decide) ?_ ?_
    · refine v_lv (lv' := []) [] rfl ?_
      exact Hj3 h0
    · refine v_aload_n C dR_leaveCodeOf_8 rfl 0 rfl ?_
      refine v_gd fun hO4 => ?_
      refine v_bind fun r5 hr5 => ?_
      refine v_callV0 (N := 0) (As := []) (st := []) C (fun f => f.elim) (mR_begin l h0 z0 a0 r5 hr5) rfl w_260 w_48 (by decide +kernel) ⟨Nat.le_of_ble_eq_true rfl, Nat.le_of_ble_eq_true rfl⟩ rfl rfl (Nat.le_of_ble_eq_true rfl) ⟨Nat.zero_le _, Nat.zero_le _⟩ w_257 w_258 w_259 v_cl2 rfl hO4 dR_leaveCodeOf_9 ?_
      refine v_lv (lv' := []) [] rfl ?_
      exact Hj3 r5
theorem dA_form_0 : decode prog_1_method_2_code 0 = .ok (.iload_n 1, 1) := by decide +kernel
theorem dA_form_1 : decode prog_1_method_2_code 1 = .ok (.invokestatic 83, 3) := by decide +kernel
theorem dA_form_4 : decode prog_1_method_2_code 4 = .ok (.ifCond .ne 6, 3) := by decide +kernel
theorem dA_form_7 : decode prog_1_method_2_code 7 = .ok (.bipush (-2), 2) := by decide +kernel
theorem dA_form_9 : decode prog_1_method_2_code 9 = .ok (.ireturn, 1) := by decide +kernel
theorem dA_form_10 : decode prog_1_method_2_code 10 = .ok (.iload_n 2, 1) := by decide +kernel
theorem dA_form_11 : decode prog_1_method_2_code 11 = .ok (.ifCond .eq 11, 3) := by decide +kernel
theorem dA_form_14 : decode prog_1_method_2_code 14 = .ok (.iload_n 2, 1) := by decide +kernel
theorem dA_form_15 : decode prog_1_method_2_code 15 = .ok (.iconst 1, 1) := by decide +kernel
theorem dA_form_16 : decode prog_1_method_2_code 16 = .ok (.if_icmp .eq 6, 3) := by decide +kernel
theorem dA_form_19 : decode prog_1_method_2_code 19 = .ok (.bipush (-3), 2) := by decide +kernel
theorem dA_form_21 : decode prog_1_method_2_code 21 = .ok (.ireturn, 1) := by decide +kernel
theorem dA_form_22 : decode prog_1_method_2_code 22 = .ok (.aload_n 0, 1) := by decide +kernel
theorem dA_form_23 : decode prog_1_method_2_code 23 = .ok (.getfield 11, 3) := by decide +kernel
theorem dA_form_26 : decode prog_1_method_2_code 26 = .ok (.iload_n 1, 1) := by decide +kernel
theorem dA_form_27 : decode prog_1_method_2_code 27 = .ok (.aaload, 1) := by decide +kernel
theorem dA_form_28 : decode prog_1_method_2_code 28 = .ok (.getfield 87, 3) := by decide +kernel
theorem dA_form_31 : decode prog_1_method_2_code 31 = .ok (.istore_n 3, 1) := by decide +kernel
theorem dA_form_32 : decode prog_1_method_2_code 32 = .ok (.aload_n 0, 1) := by decide +kernel
theorem dA_form_33 : decode prog_1_method_2_code 33 = .ok (.getfield 11, 3) := by decide +kernel
theorem dA_form_36 : decode prog_1_method_2_code 36 = .ok (.iload_n 1, 1) := by decide +kernel
theorem dA_form_37 : decode prog_1_method_2_code 37 = .ok (.aaload, 1) := by decide +kernel
theorem dA_form_38 : decode prog_1_method_2_code 38 = .ok (.iload_n 2, 1) := by decide +kernel
theorem dA_form_39 : decode prog_1_method_2_code 39 = .ok (.invokevirtual 90, 3) := by decide +kernel
theorem dA_form_42 : decode prog_1_method_2_code 42 = .ok (.aload_n 0, 1) := by decide +kernel
theorem dA_form_43 : decode prog_1_method_2_code 43 = .ok (.getfield 15, 3) := by decide +kernel
theorem dA_form_46 : decode prog_1_method_2_code 46 = .ok (.iload_n 1, 1) := by decide +kernel
theorem dA_form_47 : decode prog_1_method_2_code 47 = .ok (.aaload, 1) := by decide +kernel
theorem dA_form_48 : decode prog_1_method_2_code 48 = .ok (.iload_n 2, 1) := by decide +kernel
theorem dA_form_49 : decode prog_1_method_2_code 49 = .ok (.invokevirtual 90, 3) := by decide +kernel
theorem dA_form_52 : decode prog_1_method_2_code 52 = .ok (.aload_n 0, 1) := by decide +kernel
theorem dA_form_53 : decode prog_1_method_2_code 53 = .ok (.getfield 42, 3) := by decide +kernel
theorem dA_form_56 : decode prog_1_method_2_code 56 = .ok (.iload_n 1, 1) := by decide +kernel
theorem dA_form_57 : decode prog_1_method_2_code 57 = .ok (.invokevirtual 93, 3) := by decide +kernel
theorem dA_form_60 : decode prog_1_method_2_code 60 = .ok (.iload_n 3, 1) := by decide +kernel
theorem dA_form_61 : decode prog_1_method_2_code 61 = .ok (.ireturn, 1) := by decide +kernel
def FA_form (h0 : Hp) (a0 : Nat) (p1 : Int32) (p2 : Int32) : Option (Hp × Int32) :=
  (FA_isTree h0 p1).bind (fun r1 =>
  if r1 = 0 then
    (some (h0, (-2)))
  else
    (jn (gR h0 a0 4 2 (fun a3 =>
    ldQ h0 a3 3 p1 (fun a4 =>
    gI h0 a4 3 8 (fun x5 =>
    gR h0 a0 4 2 (fun a6 =>
    ldQ h0 a6 3 p1 (fun a7 =>
    gd (isO h0 a7 3 = true) ((FT_beginAs h0 a7 p2).bind (fun r9 =>
    gR r9 a0 4 3 (fun a10 =>
    ldQ r9 a10 3 p1 (fun a11 =>
    gd (isO r9 a11 3 = true) ((FT_beginAs r9 a11 p2).bind (fun r13 =>
    gR r13 a0 4 11 (fun a14 =>
    gd (isO r13 a14 2 = true) ((FR_leaveCodeOf r13 a14 p1).bind (fun r16 =>
    some (r16, x5))))))))))))))))
    (fun (j2 : Option (Hp × Int32)) =>
    if p2 = 0 then
      (j2)
    else
      (if p2 = 1 then
        (j2)
      else
        (some (h0, (-3)))))))
set_option maxRecDepth 100000 in
set_option maxHeartbeats 4000000 in
theorem mA_form (l : Launch) (h0 : Hp) (z0 : Nat) (a0 : Nat) (p1 : Int32) (p2 : Int32) (r : (Hp × Int32)) (hr : FA_form h0 a0 p1 p2 = some r) : vM False l yA_form (Cond.code yA_form prog_1_method_2_code 4 (some (.int)) :: gW) 4 [.ref a0, .int p1, .int p2] h0 z0 r.1 z0 (some (.int r.2)) 0 0 := by
  refine vM.of (by decide) rfl (Nat.le_of_ble_eq_true rfl) ?_
  intro p e s m args below meth c D dA C hin2
  refine (?_ : vO p l e (vR 4 0 0) s m args below meth c D dA (vA h0 z0) 4 False (fun r : (Hp × Int32) => MQ below (vQc False h0 z0 D dA r.1 z0 (some (.int r.2))) args s 0 0 (vAr False h0 z0)) 0 0 h0 z0 [(0, .ref a0), (1, .int p1), (2, .int p2)] 0 [] (FA_form h0 a0 p1 p2)) r hr
  obtain ⟨Q, hQ⟩ : ∃ Q : (Hp × Int32) → State → Prop, Q = (fun r : (Hp × Int32) => MQ below (vQc False h0 z0 D dA r.1 z0 (some (.int r.2))) args s 0 0 (vAr False h0 z0)) := ⟨_, rfl⟩
  rw [← hQ]
  unfold FA_form
  refine v_iload_n C dA_form_0 rfl 1 rfl ?_
  refine v_bind fun r1 hr1 => ?_
  refine v_callS0 (N := 1) (As := [.int p1]) (st := []) C (fun _ => trivial) (mA_isTree l h0 z0 p1 r1 hr1) rfl w_244 w_47 (by decide +kernel) ⟨Nat.le_of_ble_eq_true rfl, Nat.le_of_ble_eq_true rfl⟩ rfl rfl (Nat.le_of_ble_eq_true rfl) ⟨Nat.zero_le _, Nat.zero_le _⟩ w_242 w_243 dA_form_1 ?_
  refine v_if_ne (tgt := 10) C dA_form_4 (by decide) ?_ ?_
  · refine v_iload_n C dA_form_10 rfl 2 rfl ?_
    refine v_jn (fun (j : Option (Hp × Int32)) => vO p l e (vR 4 0 0) s m args below meth c D dA (vA h0 z0) 4 False Q 0 0 h0 z0 [(0, .ref a0), (1, .int p1), (2, .int p2)] 22 [] j) ?_ (fun j2 Hj2 => ?_)
    · refine v_aload_n C dA_form_22 rfl 0 rfl ?_
      refine v_getR C v_cl4 (by decide) in_4 rfl w_203 dA_form_23 (fun a3 => ?_)
      refine v_iload_n C dA_form_26 rfl 1 rfl ?_
      refine v_aald C rfl dA_form_27 (fun a4 => ?_)
      refine v_getIN C v_cl3 (by decide) in_3 rfl (nf_0 C.2.2.2.2.2.2.2.2.2) dA_form_28 (fun x5 => ?_)
      refine v_istore_n (lv' := [(0, .ref a0), (1, .int p1), (2, .int p2), (3, .int x5)]) C dA_form_31 rfl (by decide) [1, 2, 3, 0] rfl ?_
      refine v_aload_n C dA_form_32 rfl 0 rfl ?_
      refine v_getR C v_cl4 (by decide) in_4 rfl w_203 dA_form_33 (fun a6 => ?_)
      refine v_iload_n C dA_form_36 rfl 1 rfl ?_
      refine v_aald C rfl dA_form_37 (fun a7 => ?_)
      refine v_iload_n C dA_form_38 rfl 2 rfl ?_
      refine v_gd fun hO8 => ?_
      refine v_bind fun r9 hr9 => ?_
      refine v_callV0 (N := 1) (As := [.int p2]) (st := []) C (fun f => f.elim) (mT_beginAs l h0 z0 a7 p2 r9 hr9) rfl w_248 w_52 (by decide +kernel) ⟨Nat.le_of_ble_eq_true rfl, Nat.le_of_ble_eq_true rfl⟩ rfl rfl (Nat.le_of_ble_eq_true rfl) ⟨Nat.zero_le _, Nat.zero_le _⟩ w_245 w_246 w_247 v_cl3 rfl hO8 dA_form_39 ?_
      refine v_aload_n C dA_form_42 rfl 0 rfl ?_
      refine v_getR C v_cl4 (by decide) in_4 rfl w_204 dA_form_43 (fun a10 => ?_)
      refine v_iload_n C dA_form_46 rfl 1 rfl ?_
      refine v_aald C rfl dA_form_47 (fun a11 => ?_)
      refine v_iload_n C dA_form_48 rfl 2 rfl ?_
      refine v_gd fun hO12 => ?_
      refine v_bind fun r13 hr13 => ?_
      refine v_callV0 (N := 1) (As := [.int p2]) (st := []) C (fun f => f.elim) (mT_beginAs l r9 z0 a11 p2 r13 hr13) rfl w_248 w_52 (by decide +kernel) ⟨Nat.le_of_ble_eq_true rfl, Nat.le_of_ble_eq_true rfl⟩ rfl rfl (Nat.le_of_ble_eq_true rfl) ⟨Nat.zero_le _, Nat.zero_le _⟩ w_245 w_246 w_247 v_cl3 rfl hO12 dA_form_49 ?_
      refine v_aload_n C dA_form_52 rfl 0 rfl ?_
      refine v_getR C v_cl4 (by decide) in_4 rfl w_212 dA_form_53 (fun a14 => ?_)
      refine v_iload_n C dA_form_56 rfl 1 rfl ?_
      refine v_gd fun hO15 => ?_
      refine v_bind fun r16 hr16 => ?_
      refine v_callV0 (N := 1) (As := [.int p1]) (st := []) C (fun f => f.elim) (mR_leaveCodeOf l r13 z0 a14 p1 r16 hr16) rfl w_256 w_48 (by decide +kernel) ⟨Nat.le_of_ble_eq_true rfl, Nat.le_of_ble_eq_true rfl⟩ rfl rfl (Nat.le_of_ble_eq_true rfl) ⟨Nat.zero_le _, Nat.zero_le _⟩ w_253 w_254 w_255 v_cl2 rfl hO15 dA_form_57 ?_
      refine v_iload_n C dA_form_60 rfl 3 rfl ?_
      exact v_iret C dA_form_61 (by rw [hQ])
    · refine v_if_eq (tgt := 22) C dA_form_11 (by decide) ?_ ?_
      · exact Hj2
      · refine v_iload_n C dA_form_14 rfl 2 rfl ?_
        refine v_iconst (v := 1) C dA_form_15 (by decide) ?_
        refine v_icmp_eq (tgt := 22) C dA_form_16 (by decide) ?_ ?_
        · exact Hj2
        · refine v_bipush (v := (-3)) C dA_form_19 (by decide) ?_
          exact v_iret C dA_form_21 (by rw [hQ])
  · refine v_bipush (v := (-2)) C dA_form_7 (by decide) ?_
    exact v_iret C dA_form_9 (by rw [hQ])
