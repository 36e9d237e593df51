theorem dT_gatherPieces_0 : decode prog_5_method_16_code 0 = .ok (.aload_n 0, 1) := by decide +kernel
theorem dT_gatherPieces_1 : decode prog_5_method_16_code 1 = .ok (.getfield 27, 3) := by decide +kernel
theorem dT_gatherPieces_4 : decode prog_5_method_16_code 4 = .ok (.iconst 0, 1) := by decide +kernel
theorem dT_gatherPieces_5 : decode prog_5_method_16_code 5 = .ok (.putfield 99, 3) := by decide +kernel
theorem dT_gatherPieces_8 : decode prog_5_method_16_code 8 = .ok (.iconst 0, 1) := by decide +kernel
theorem dT_gatherPieces_9 : decode prog_5_method_16_code 9 = .ok (.istore_n 1, 1) := by decide +kernel
theorem dT_gatherPieces_10 : decode prog_5_method_16_code 10 = .ok (.iload_n 1, 1) := by decide +kernel
theorem dT_gatherPieces_11 : decode prog_5_method_16_code 11 = .ok (.aload_n 0, 1) := by decide +kernel
theorem dT_gatherPieces_12 : decode prog_5_method_16_code 12 = .ok (.getfield 15, 3) := by decide +kernel
theorem dT_gatherPieces_15 : decode prog_5_method_16_code 15 = .ok (.if_icmp .ge 42, 3) := by decide +kernel
theorem dT_gatherPieces_18 : decode prog_5_method_16_code 18 = .ok (.aload_n 0, 1) := by decide +kernel
theorem dT_gatherPieces_19 : decode prog_5_method_16_code 19 = .ok (.getfield 39, 3) := by decide +kernel
theorem dT_gatherPieces_22 : decode prog_5_method_16_code 22 = .ok (.iload_n 1, 1) := by decide +kernel
theorem dT_gatherPieces_23 : decode prog_5_method_16_code 23 = .ok (.iaload, 1) := by decide +kernel
theorem dT_gatherPieces_24 : decode prog_5_method_16_code 24 = .ok (.iconst (-1), 1) := by decide +kernel
theorem dT_gatherPieces_25 : decode prog_5_method_16_code 25 = .ok (.if_icmp .eq 26, 3) := by decide +kernel
theorem dT_gatherPieces_28 : decode prog_5_method_16_code 28 = .ok (.aload_n 0, 1) := by decide +kernel
theorem dT_gatherPieces_29 : decode prog_5_method_16_code 29 = .ok (.getfield 27, 3) := by decide +kernel
theorem dT_gatherPieces_32 : decode prog_5_method_16_code 32 = .ok (.aload_n 0, 1) := by decide +kernel
theorem dT_gatherPieces_33 : decode prog_5_method_16_code 33 = .ok (.getfield 35, 3) := by decide +kernel
theorem dT_gatherPieces_36 : decode prog_5_method_16_code 36 = .ok (.iload_n 1, 1) := by decide +kernel
theorem dT_gatherPieces_37 : decode prog_5_method_16_code 37 = .ok (.iaload, 1) := by decide +kernel
theorem dT_gatherPieces_38 : decode prog_5_method_16_code 38 = .ok (.iconst 1, 1) := by decide +kernel
theorem dT_gatherPieces_39 : decode prog_5_method_16_code 39 = .ok (.iadd, 1) := by decide +kernel
theorem dT_gatherPieces_40 : decode prog_5_method_16_code 40 = .ok (.iconst 2, 1) := by decide +kernel
theorem dT_gatherPieces_41 : decode prog_5_method_16_code 41 = .ok (.idiv, 1) := by decide +kernel
theorem dT_gatherPieces_42 : decode prog_5_method_16_code 42 = .ok (.aload_n 0, 1) := by decide +kernel
theorem dT_gatherPieces_43 : decode prog_5_method_16_code 43 = .ok (.getfield 39, 3) := by decide +kernel
theorem dT_gatherPieces_46 : decode prog_5_method_16_code 46 = .ok (.iload_n 1, 1) := by decide +kernel
theorem dT_gatherPieces_47 : decode prog_5_method_16_code 47 = .ok (.iaload, 1) := by decide +kernel
theorem dT_gatherPieces_48 : decode prog_5_method_16_code 48 = .ok (.invokevirtual 108, 3) := by decide +kernel
theorem dT_gatherPieces_51 : decode prog_5_method_16_code 51 = .ok (.iinc 1 1, 3) := by decide +kernel
theorem dT_gatherPieces_54 : decode prog_5_method_16_code 54 = .ok (.goto (-44), 3) := by decide +kernel
theorem dT_gatherPieces_57 : decode prog_5_method_16_code 57 = .ok (.return_, 1) := by decide +kernel
def LT_gatherPieces_10 (a0 : Nat) (K4 : Hp → Option Hp) (rec7 : Hp → Int32 → Option Hp) (h5 : Hp) (x6 : Int32) : Option Hp :=
  gI h5 a0 3 9 (fun x8 =>
  if x8 ≤ x6 then
    (K4 h5)
  else
    (gR h5 a0 3 3 (fun a9 =>
    ldI h5 a9 0 x6 (fun x10 =>
    jn (fun (h11 : Hp) =>
    rec7 h11 (x6 + 1))
    (fun (j12 : Hp → Option Hp) =>
    if x10 = (-1) then
      (j12 h5)
    else
      (gR h5 a0 3 1 (fun a13 =>
      gR h5 a0 3 2 (fun a14 =>
      ldI h5 a14 0 x6 (fun x15 =>
      gd (¬ 2 = 0) (
      gR h5 a0 3 3 (fun a16 =>
      ldI h5 a16 0 x6 (fun x17 =>
      gd (isO h5 a13 1 = true) ((FP_append h5 a13 ((x15 + 1) / 2) x17).bind (fun r19 =>
      j12 r19))))))))))))))
def FT_gatherPieces (h0 : Hp) (a0 : Nat) : Option Hp :=
  gR h0 a0 3 1 (fun a1 =>
  pF h0 a1 1 3 (.int 0) (fun h2 =>
  jn (fun (h3 : Hp) =>
  some h3)
  (fun (K4 : Hp → Option Hp) =>
  lpG (fun _ _ => none) fu (LT_gatherPieces_10 a0 K4) h2 0)))
set_option maxRecDepth 100000 in
set_option maxHeartbeats 4000000 in
theorem mT_gatherPieces (l : Launch) (h0 : Hp) (z0 : Nat) (a0 : Nat) (r : Hp) (hr : FT_gatherPieces h0 a0 = some r) : vM False l yT_gatherPieces (Cond.code yT_gatherPieces prog_5_method_16_code 2 none :: gW) 2 [.ref a0] h0 z0 r z0 none 0 0 := by
  refine vM.of (by decide) rfl (Nat.le_of_ble_eq_true rfl) ?_
  intro p e s m args below meth c D dA C hin2
  refine (?_ : vO p l e (vR 2 0 0) s m args below meth c D dA (vA h0 z0) 2 False (fun r : Hp => MQ below (vQc False h0 z0 D dA r z0 none) args s 0 0 (vAr False h0 z0)) 0 0 h0 z0 [(0, .ref a0)] 0 [] (FT_gatherPieces h0 a0)) r hr
  obtain ⟨Q, hQ⟩ : ∃ Q : Hp → State → Prop, Q = (fun r : Hp => MQ below (vQc False h0 z0 D dA r z0 none) args s 0 0 (vAr False h0 z0)) := ⟨_, rfl⟩
  rw [← hQ]
  unfold FT_gatherPieces
  refine v_aload_n C dT_gatherPieces_0 rfl 0 rfl ?_
  refine v_getR C v_cl3 (by decide) in_3 rfl w_155 dT_gatherPieces_1 (fun a1 => ?_)
  refine v_iconst (v := 0) C dT_gatherPieces_4 (by decide) ?_
  refine v_putN C v_cl1 (by decide) in_1 ty_1 ty_1_ok nm_1 rfl (nf_13 C.2.2.2.2.2.2.2.2.2) rfl (ty := .int) (by decide +kernel) rfl rfl dT_gatherPieces_5 (fun h2 => ?_)
  refine v_iconst (v := 0) C dT_gatherPieces_8 (by decide) ?_
  refine v_istore_n (lv' := [(0, .ref a0), (1, .int 0)]) C dT_gatherPieces_9 rfl (by decide) [1, 0] rfl ?_
  refine v_jn (fun (j : Hp → Option Hp) => ∀ (h3 : Hp), vO p l e (vR 2 0 0) s m args below meth c D dA (vA h0 z0) 2 False Q 0 0 h3 z0 [] 57 [] (j h3)) ?_ (fun K4 HK4 => ?_)
  · intro h3
    exact v_vret C dT_gatherPieces_57 (by rw [hQ])
  · refine lpG_ind (bot := (fun _ _ => none)) (B := LT_gatherPieces_10 a0 K4) (fun (r : Hp → Int32 → Option Hp) => ∀ (h5 : Hp), ∀ (x6 : Int32), vO p l e (vR 2 0 0) s m args below meth c D dA (vA h0 z0) 2 False Q 0 0 h5 z0 [(0, .ref a0), (1, .int x6)] 10 [] (r h5 x6)) ?_ ?_ fu h2 0
    · intro h5 x6
      exact v_none
    · intro rec7 Hrec7 h5 x6
      unfold LT_gatherPieces_10
      refine v_iload_n C dT_gatherPieces_10 rfl 1 rfl ?_
      refine v_aload_n C dT_gatherPieces_11 rfl 0 rfl ?_
      refine v_getI C v_cl3 (by decide) in_3 rfl w_169 dT_gatherPieces_12 (fun x8 => ?_)
      refine v_icmp_ge (tgt := 57) C dT_gatherPieces_15 (by decide) ?_ ?_
      · refine v_lv (lv' := []) [] rfl ?_
        exact HK4 h5
      · refine v_aload_n C dT_gatherPieces_18 rfl 0 rfl ?_
        refine v_getR C v_cl3 (by decide) in_3 rfl w_158 dT_gatherPieces_19 (fun a9 => ?_)
        refine v_iload_n C dT_gatherPieces_22 rfl 1 rfl ?_
        refine v_iald C rfl dT_gatherPieces_23 (fun x10 => ?_)
        refine v_iconst (v := (-1)) C dT_gatherPieces_24 (by decide) ?_
        refine v_jn (fun (j : Hp → Option Hp) => ∀ (h11 : Hp), vO p l e (vR 2 0 0) s m args below meth c D dA (vA h0 z0) 2 False Q 0 0 h11 z0 [(0, .ref a0), (1, .int x6)] 51 [] (j h11)) ?_ (fun j12 Hj12 => ?_)
        · intro h11
          refine v_iinc (v := (x6 + 1)) (lv' := [(0, .ref a0), (1, .int (x6 + 1))]) C dT_gatherPieces_51 1 rfl rfl (by decide) [1, 0] rfl ?_
          refine v_goto (tgt := 10) C dT_gatherPieces_54 (by decide) ?_
          exact Hrec7 h11 (x6 + 1)
        · refine v_icmp_eq (tgt := 51) C dT_gatherPieces_25 (by decide) ?_ ?_
          · exact Hj12 h5
          · refine v_aload_n C dT_gatherPieces_28 rfl 0 rfl ?_
            refine v_getR C v_cl3 (by decide) in_3 rfl w_155 dT_gatherPieces_29 (fun a13 => ?_)
            refine v_aload_n C dT_gatherPieces_32 rfl 0 rfl ?_
            refine v_getR C v_cl3 (by decide) in_3 rfl w_156 dT_gatherPieces_33 (fun a14 => ?_)
            refine v_iload_n C dT_gatherPieces_36 rfl 1 rfl ?_
            refine v_iald C rfl dT_gatherPieces_37 (fun x15 => ?_)
            refine v_iconst (v := 1) C dT_gatherPieces_38 (by decide) ?_
            refine v_iadd C dT_gatherPieces_39 ?_
            refine v_iconst (v := 2) C dT_gatherPieces_40 (by decide) ?_
            refine v_idiv C dT_gatherPieces_41 ?_
            refine v_aload_n C dT_gatherPieces_42 rfl 0 rfl ?_
            refine v_getR C v_cl3 (by decide) in_3 rfl w_158 dT_gatherPieces_43 (fun a16 => ?_)
            refine v_iload_n C dT_gatherPieces_46 rfl 1 rfl ?_
            refine v_iald C rfl dT_gatherPieces_47 (fun x17 => ?_)
            refine v_gd fun hO18 => ?_
            refine v_bind fun r19 hr19 => ?_
            refine v_callV0 (N := 2) (As := [.int ((x15 + 1) / 2), .int x17]) (st := []) C (fun f => f.elim) (mP_append l h5 z0 a13 ((x15 + 1) / 2) x17 r19 hr19) rfl w_342 w_49 (by decide +kernel) ⟨Nat.le_of_ble_eq_true rfl, Nat.le_of_ble_eq_true rfl⟩ rfl rfl (Nat.le_of_ble_eq_true rfl) ⟨Nat.zero_le _, Nat.zero_le _⟩ w_339 w_340 w_341 v_cl1 rfl hO18 dT_gatherPieces_48 ?_
            exact Hj12 r19
theorem dT_settle_0 : decode prog_5_method_17_code 0 = .ok (.aload_n 0, 1) := by decide +kernel
theorem dT_settle_1 : decode prog_5_method_17_code 1 = .ok (.getfield 27, 3) := by decide +kernel
theorem dT_settle_4 : decode prog_5_method_17_code 4 = .ok (.getfield 110, 3) := by decide +kernel
theorem dT_settle_7 : decode prog_5_method_17_code 7 = .ok (.iload_n 1, 1) := by decide +kernel
theorem dT_settle_8 : decode prog_5_method_17_code 8 = .ok (.iaload, 1) := by decide +kernel
theorem dT_settle_9 : decode prog_5_method_17_code 9 = .ok (.istore_n 3, 1) := by decide +kernel
theorem dT_settle_10 : decode prog_5_method_17_code 10 = .ok (.aload_n 0, 1) := by decide +kernel
theorem dT_settle_11 : decode prog_5_method_17_code 11 = .ok (.iload_n 2, 1) := by decide +kernel
theorem dT_settle_12 : decode prog_5_method_17_code 12 = .ok (.aload_n 0, 1) := by decide +kernel
theorem dT_settle_13 : decode prog_5_method_17_code 13 = .ok (.getfield 27, 3) := by decide +kernel
theorem dT_settle_16 : decode prog_5_method_17_code 16 = .ok (.getfield 111, 3) := by decide +kernel
theorem dT_settle_19 : decode prog_5_method_17_code 19 = .ok (.iload_n 1, 1) := by decide +kernel
theorem dT_settle_20 : decode prog_5_method_17_code 20 = .ok (.iaload, 1) := by decide +kernel
theorem dT_settle_21 : decode prog_5_method_17_code 21 = .ok (.aload_n 0, 1) := by decide +kernel
theorem dT_settle_22 : decode prog_5_method_17_code 22 = .ok (.getfield 27, 3) := by decide +kernel
theorem dT_settle_25 : decode prog_5_method_17_code 25 = .ok (.getfield 112, 3) := by decide +kernel
theorem dT_settle_28 : decode prog_5_method_17_code 28 = .ok (.iload_n 1, 1) := by decide +kernel
theorem dT_settle_29 : decode prog_5_method_17_code 29 = .ok (.iaload, 1) := by decide +kernel
theorem dT_settle_30 : decode prog_5_method_17_code 30 = .ok (.iload_n 3, 1) := by decide +kernel
theorem dT_settle_31 : decode prog_5_method_17_code 31 = .ok (.iload_n 3, 1) := by decide +kernel
theorem dT_settle_32 : decode prog_5_method_17_code 32 = .ok (.iconst (-1), 1) := by decide +kernel
theorem dT_settle_33 : decode prog_5_method_17_code 33 = .ok (.if_icmp .ne 7, 3) := by decide +kernel
theorem dT_settle_36 : decode prog_5_method_17_code 36 = .ok (.iconst (-1), 1) := by decide +kernel
theorem dT_settle_37 : decode prog_5_method_17_code 37 = .ok (.goto 6, 3) := by decide +kernel
theorem dT_settle_40 : decode prog_5_method_17_code 40 = .ok (.iload_n 3, 1) := by decide +kernel
theorem dT_settle_41 : decode prog_5_method_17_code 41 = .ok (.iconst 1, 1) := by decide +kernel
theorem dT_settle_42 : decode prog_5_method_17_code 42 = .ok (.iadd, 1) := by decide +kernel
theorem dT_settle_43 : decode prog_5_method_17_code 43 = .ok (.invokevirtual 60, 3) := by decide +kernel
theorem dT_settle_46 : decode prog_5_method_17_code 46 = .ok (.return_, 1) := by decide +kernel
def FT_settle (h0 : Hp) (a0 : Nat) (p1 : Int32) (p2 : Int32) : Option Hp :=
  gR h0 a0 3 1 (fun a1 =>
  gR h0 a1 1 2 (fun a2 =>
  ldI h0 a2 0 p1 (fun x3 =>
  gR h0 a0 3 1 (fun a4 =>
  gR h0 a4 1 0 (fun a5 =>
  ldI h0 a5 0 p1 (fun x6 =>
  gR h0 a0 3 1 (fun a7 =>
  gR h0 a7 1 1 (fun a8 =>
  ldI h0 a8 0 p1 (fun x9 =>
  jn (fun (y10 : Int32) (y11 : Int32) (y12 : Int32) (y13 : Int32) (y14 : Int32) (b15 : Nat) =>
  gd (isO h0 b15 3 = true) ((FT_fill h0 b15 y14 y13 y12 y11 y10).bind (fun r18 =>
  some r18)))
  (fun (j16 : Int32 → Int32 → Int32 → Int32 → Int32 → Nat → Option Hp) =>
  if x3 = (-1) then
    (j16 (-1) x3 x9 x6 p2 a0)
  else
    (j16 (x3 + 1) x3 x9 x6 p2 a0)))))))))))
set_option maxRecDepth 100000 in
set_option maxHeartbeats 4000000 in
theorem mT_settle (l : Launch) (h0 : Hp) (z0 : Nat) (a0 : Nat) (p1 : Int32) (p2 : Int32) (r : Hp) (hr : FT_settle h0 a0 p1 p2 = some r) : vM False l yT_settle (Cond.code yT_settle prog_5_method_17_code 4 none :: gW) 1 [.ref a0, .int p1, .int p2] h0 z0 r z0 none 0 0 := by
  refine vM.of (by decide) rfl (Nat.le_of_ble_eq_true rfl) ?_
  intro p e s m args below meth c D dA C hin2
  refine (?_ : vO p l e (vR 1 0 0) s m args below meth c D dA (vA h0 z0) 4 False (fun r : Hp => MQ below (vQc False h0 z0 D dA r z0 none) args s 0 0 (vAr False h0 z0)) 0 0 h0 z0 [(0, .ref a0), (1, .int p1), (2, .int p2)] 0 [] (FT_settle h0 a0 p1 p2)) r hr
  obtain ⟨Q, hQ⟩ : ∃ Q : Hp → State → Prop, Q = (fun r : Hp => MQ below (vQc False h0 z0 D dA r z0 none) args s 0 0 (vAr False h0 z0)) := ⟨_, rfl⟩
  rw [← hQ]
  unfold FT_settle
  refine v_aload_n C dT_settle_0 rfl 0 rfl ?_
  refine v_getR C v_cl3 (by decide) in_3 rfl w_155 dT_settle_1 (fun a1 => ?_)
  refine v_getRN C v_cl1 (by decide) in_1 rfl (nf_14 C.2.2.2.2.2.2.2.2.2) dT_settle_4 (fun a2 => ?_)
  refine v_iload_n C dT_settle_7 rfl 1 rfl ?_
  refine v_iald C rfl dT_settle_8 (fun x3 => ?_)
  refine v_istore_n (lv' := [(0, .ref a0), (1, .int p1), (2, .int p2), (3, .int x3)]) C dT_settle_9 rfl (by decide) [1, 2, 3, 0] rfl ?_
  refine v_aload_n C dT_settle_10 rfl 0 rfl ?_
  refine v_iload_n C dT_settle_11 rfl 2 rfl ?_
  refine v_aload_n C dT_settle_12 rfl 0 rfl ?_
  refine v_getR C v_cl3 (by decide) in_3 rfl w_155 dT_settle_13 (fun a4 => ?_)
  refine v_getRN C v_cl1 (by decide) in_1 rfl (nf_15 C.2.2.2.2.2.2.2.2.2) dT_settle_16 (fun a5 => ?_)
  refine v_iload_n C dT_settle_19 rfl 1 rfl ?_
  refine v_iald C rfl dT_settle_20 (fun x6 => ?_)
  refine v_aload_n C dT_settle_21 rfl 0 rfl ?_
  refine v_getR C v_cl3 (by decide) in_3 rfl w_155 dT_settle_22 (fun a7 => ?_)
  refine v_getRN C v_cl1 (by decide) in_1 rfl (nf_16 C.2.2.2.2.2.2.2.2.2) dT_settle_25 (fun a8 => ?_)
  refine v_iload_n C dT_settle_28 rfl 1 rfl ?_
  refine v_iald C rfl dT_settle_29 (fun x9 => ?_)
  refine v_iload_n C dT_settle_30 rfl 3 rfl ?_
  refine v_iload_n C dT_settle_31 rfl 3 rfl ?_
  refine v_iconst (v := (-1)) C dT_settle_32 (by decide) ?_
  refine v_jn (fun (j : Int32 → Int32 → Int32 → Int32 → Int32 → Nat → Option Hp) => ∀ (y10 : Int32), ∀ (y11 : Int32), ∀ (y12 : Int32), ∀ (y13 : Int32), ∀ (y14 : Int32), ∀ (b15 : Nat), vO p l e (vR 1 0 0) s m args below meth c D dA (vA h0 z0) 4 False Q 0 0 h0 z0 [] 43 [.int y10, .int y11, .int y12, .int y13, .int y14, .ref b15] (j y10 y11 y12 y13 y14 b15)) ?_ (fun j16 Hj16 => ?_)
  · intro y10 y11 y12 y13 y14 b15
    refine v_gd fun hO17 => ?_
    refine v_bind fun r18 hr18 => ?_
    refine v_callV0 (N := 5) (As := [.int y14, .int y13, .int y12, .int y11, .int y10]) (st := []) C (fun f => f.elim) (mT_fill l h0 z0 b15 y14 y13 y12 y11 y10 r18 hr18) rfl w_153 w_50 (by decide +kernel) ⟨Nat.le_of_ble_eq_true rfl, Nat.le_of_ble_eq_true rfl⟩ rfl rfl (Nat.le_of_ble_eq_true rfl) ⟨Nat.zero_le _, Nat.zero_le _⟩ w_150 w_152 w_1 v_cl3 rfl hO17 dT_settle_43 ?_
    exact v_vret C dT_settle_46 (by rw [hQ])
  · refine v_icmp_ne (tgt := 40) C dT_settle_33 (by decide) ?_ ?_
    · refine v_iload_n C dT_settle_40 rfl 3 rfl ?_
      refine v_iconst (v := 1) C dT_settle_41 (by decide) ?_
      refine v_iadd C dT_settle_42 ?_
      refine v_lv (lv' := []) [] rfl ?_
      exact Hj16 (x3 + 1) x3 x9 x6 p2 a0
    · refine v_iconst (v := (-1)) C dT_settle_36 (by decide) ?_
      refine v_goto (tgt := 43) C dT_settle_37 (by decide) ?_
      refine v_lv (lv' := []) [] rfl ?_
      exact Hj16 (-1) x3 x9 x6 p2 a0
theorem dP_joinLastTwo_0 : decode prog_3_method_3_code 0 = .ok (.aload_n 0, 1) := by decide +kernel
theorem dP_joinLastTwo_1 : decode prog_3_method_3_code 1 = .ok (.getfield 9, 3) := by decide +kernel
theorem dP_joinLastTwo_4 : decode prog_3_method_3_code 4 = .ok (.iconst 2, 1) := by decide +kernel
theorem dP_joinLastTwo_5 : decode prog_3_method_3_code 5 = .ok (.if_icmp .ge 4, 3) := by decide +kernel
theorem dP_joinLastTwo_8 : decode prog_3_method_3_code 8 = .ok (.return_, 1) := by decide +kernel
theorem dP_joinLastTwo_9 : decode prog_3_method_3_code 9 = .ok (.aload_n 0, 1) := by decide +kernel
theorem dP_joinLastTwo_10 : decode prog_3_method_3_code 10 = .ok (.getfield 15, 3) := by decide +kernel
theorem dP_joinLastTwo_13 : decode prog_3_method_3_code 13 = .ok (.aload_n 0, 1) := by decide +kernel
theorem dP_joinLastTwo_14 : decode prog_3_method_3_code 14 = .ok (.getfield 9, 3) := by decide +kernel
theorem dP_joinLastTwo_17 : decode prog_3_method_3_code 17 = .ok (.iconst 2, 1) := by decide +kernel
theorem dP_joinLastTwo_18 : decode prog_3_method_3_code 18 = .ok (.isub, 1) := by decide +kernel
theorem dP_joinLastTwo_19 : decode prog_3_method_3_code 19 = .ok (.iaload, 1) := by decide +kernel
theorem dP_joinLastTwo_20 : decode prog_3_method_3_code 20 = .ok (.aload_n 0, 1) := by decide +kernel
theorem dP_joinLastTwo_21 : decode prog_3_method_3_code 21 = .ok (.getfield 15, 3) := by decide +kernel
theorem dP_joinLastTwo_24 : decode prog_3_method_3_code 24 = .ok (.aload_n 0, 1) := by decide +kernel
theorem dP_joinLastTwo_25 : decode prog_3_method_3_code 25 = .ok (.getfield 9, 3) := by decide +kernel
theorem dP_joinLastTwo_28 : decode prog_3_method_3_code 28 = .ok (.iconst 1, 1) := by decide +kernel
theorem dP_joinLastTwo_29 : decode prog_3_method_3_code 29 = .ok (.isub, 1) := by decide +kernel
theorem dP_joinLastTwo_30 : decode prog_3_method_3_code 30 = .ok (.iaload, 1) := by decide +kernel
theorem dP_joinLastTwo_31 : decode prog_3_method_3_code 31 = .ok (.iadd, 1) := by decide +kernel
theorem dP_joinLastTwo_32 : decode prog_3_method_3_code 32 = .ok (.istore_n 2, 1) := by decide +kernel
theorem dP_joinLastTwo_33 : decode prog_3_method_3_code 33 = .ok (.aload_n 0, 1) := by decide +kernel
theorem dP_joinLastTwo_34 : decode prog_3_method_3_code 34 = .ok (.getfield 9, 3) := by decide +kernel
theorem dP_joinLastTwo_37 : decode prog_3_method_3_code 37 = .ok (.iconst 2, 1) := by decide +kernel
theorem dP_joinLastTwo_38 : decode prog_3_method_3_code 38 = .ok (.isub, 1) := by decide +kernel
theorem dP_joinLastTwo_39 : decode prog_3_method_3_code 39 = .ok (.istore_n 3, 1) := by decide +kernel
theorem dP_joinLastTwo_40 : decode prog_3_method_3_code 40 = .ok (.iload_n 3, 1) := by decide +kernel
theorem dP_joinLastTwo_41 : decode prog_3_method_3_code 41 = .ok (.ifCond .le 50, 3) := by decide +kernel
theorem dP_joinLastTwo_44 : decode prog_3_method_3_code 44 = .ok (.aload_n 0, 1) := by decide +kernel
theorem dP_joinLastTwo_45 : decode prog_3_method_3_code 45 = .ok (.getfield 15, 3) := by decide +kernel
theorem dP_joinLastTwo_48 : decode prog_3_method_3_code 48 = .ok (.iload_n 3, 1) := by decide +kernel
theorem dP_joinLastTwo_49 : decode prog_3_method_3_code 49 = .ok (.iconst 1, 1) := by decide +kernel
theorem dP_joinLastTwo_50 : decode prog_3_method_3_code 50 = .ok (.isub, 1) := by decide +kernel
theorem dP_joinLastTwo_51 : decode prog_3_method_3_code 51 = .ok (.iaload, 1) := by decide +kernel
theorem dP_joinLastTwo_52 : decode prog_3_method_3_code 52 = .ok (.iload_n 2, 1) := by decide +kernel
theorem dP_joinLastTwo_53 : decode prog_3_method_3_code 53 = .ok (.if_icmp .ge 38, 3) := by decide +kernel
theorem dP_joinLastTwo_56 : decode prog_3_method_3_code 56 = .ok (.aload_n 0, 1) := by decide +kernel
theorem dP_joinLastTwo_57 : decode prog_3_method_3_code 57 = .ok (.iload_n 3, 1) := by decide +kernel
theorem dP_joinLastTwo_58 : decode prog_3_method_3_code 58 = .ok (.aload_n 0, 1) := by decide +kernel
theorem dP_joinLastTwo_59 : decode prog_3_method_3_code 59 = .ok (.getfield 15, 3) := by decide +kernel
theorem dP_joinLastTwo_62 : decode prog_3_method_3_code 62 = .ok (.iload_n 3, 1) := by decide +kernel
theorem dP_joinLastTwo_63 : decode prog_3_method_3_code 63 = .ok (.iconst 1, 1) := by decide +kernel
theorem dP_joinLastTwo_64 : decode prog_3_method_3_code 64 = .ok (.isub, 1) := by decide +kernel
theorem dP_joinLastTwo_65 : decode prog_3_method_3_code 65 = .ok (.iaload, 1) := by decide +kernel
theorem dP_joinLastTwo_66 : decode prog_3_method_3_code 66 = .ok (.aload_n 0, 1) := by decide +kernel
theorem dP_joinLastTwo_67 : decode prog_3_method_3_code 67 = .ok (.getfield 19, 3) := by decide +kernel
theorem dP_joinLastTwo_70 : decode prog_3_method_3_code 70 = .ok (.iload_n 3, 1) := by decide +kernel
theorem dP_joinLastTwo_71 : decode prog_3_method_3_code 71 = .ok (.iconst 1, 1) := by decide +kernel
theorem dP_joinLastTwo_72 : decode prog_3_method_3_code 72 = .ok (.isub, 1) := by decide +kernel
theorem dP_joinLastTwo_73 : decode prog_3_method_3_code 73 = .ok (.iaload, 1) := by decide +kernel
theorem dP_joinLastTwo_74 : decode prog_3_method_3_code 74 = .ok (.aload_n 0, 1) := by decide +kernel
theorem dP_joinLastTwo_75 : decode prog_3_method_3_code 75 = .ok (.getfield 22, 3) := by decide +kernel
theorem dP_joinLastTwo_78 : decode prog_3_method_3_code 78 = .ok (.iload_n 3, 1) := by decide +kernel
theorem dP_joinLastTwo_79 : decode prog_3_method_3_code 79 = .ok (.iconst 1, 1) := by decide +kernel
theorem dP_joinLastTwo_80 : decode prog_3_method_3_code 80 = .ok (.isub, 1) := by decide +kernel
theorem dP_joinLastTwo_81 : decode prog_3_method_3_code 81 = .ok (.iaload, 1) := by decide +kernel
theorem dP_joinLastTwo_82 : decode prog_3_method_3_code 82 = .ok (.invokevirtual 25, 3) := by decide +kernel
theorem dP_joinLastTwo_85 : decode prog_3_method_3_code 85 = .ok (.iinc 3 (-1), 3) := by decide +kernel
theorem dP_joinLastTwo_88 : decode prog_3_method_3_code 88 = .ok (.goto (-48), 3) := by decide +kernel
theorem dP_joinLastTwo_91 : decode prog_3_method_3_code 91 = .ok (.aload_n 0, 1) := by decide +kernel
theorem dP_joinLastTwo_92 : decode prog_3_method_3_code 92 = .ok (.iload_n 3, 1) := by decide +kernel
theorem dP_joinLastTwo_93 : decode prog_3_method_3_code 93 = .ok (.iload_n 2, 1) := by decide +kernel
theorem dP_joinLastTwo_94 : decode prog_3_method_3_code 94 = .ok (.iconst (-1), 1) := by decide +kernel
theorem dP_joinLastTwo_95 : decode prog_3_method_3_code 95 = .ok (.iload_n 1, 1) := by decide +kernel
theorem dP_joinLastTwo_96 : decode prog_3_method_3_code 96 = .ok (.invokevirtual 25, 3) := by decide +kernel
theorem dP_joinLastTwo_99 : decode prog_3_method_3_code 99 = .ok (.aload_n 0, 1) := by decide +kernel
theorem dP_joinLastTwo_100 : decode prog_3_method_3_code 100 = .ok (.dup, 1) := by decide +kernel
theorem dP_joinLastTwo_101 : decode prog_3_method_3_code 101 = .ok (.getfield 9, 3) := by decide +kernel
theorem dP_joinLastTwo_104 : decode prog_3_method_3_code 104 = .ok (.iconst 1, 1) := by decide +kernel
theorem dP_joinLastTwo_105 : decode prog_3_method_3_code 105 = .ok (.isub, 1) := by decide +kernel
theorem dP_joinLastTwo_106 : decode prog_3_method_3_code 106 = .ok (.putfield 9, 3) := by decide +kernel
theorem dP_joinLastTwo_109 : decode prog_3_method_3_code 109 = .ok (.return_, 1) := by decide +kernel
def LP_joinLastTwo_40 (a0 : Nat) (x4 : Int32) (x7 : Int32) (K11 : Hp → Int32 → Option Hp) (rec18 : Hp → Int32 → Option Hp) (h16 : Hp) (x17 : Int32) : Option Hp :=
  if x17 ≤ 0 then
    (K11 h16 x17)
  else
    (gR h16 a0 1 0 (fun a19 =>
    ldI h16 a19 0 (x17 - 1) (fun x20 =>
    if (x4 + x7) ≤ x20 then
      (K11 h16 x17)
    else
      (gR h16 a0 1 0 (fun a21 =>
      ldI h16 a21 0 (x17 - 1) (fun x22 =>
      gR h16 a0 1 1 (fun a23 =>
      ldI h16 a23 0 (x17 - 1) (fun x24 =>
      gR h16 a0 1 2 (fun a25 =>
      ldI h16 a25 0 (x17 - 1) (fun x26 =>
      gd (isO h16 a0 1 = true) ((FP_set h16 a0 x17 x22 x24 x26).bind (fun r28 =>
      rec18 r28 (x17 + (-1))))))))))))))
def FP_joinLastTwo (h0 : Hp) (a0 : Nat) (p1 : Int32) : Option Hp :=
  gI h0 a0 1 3 (fun x1 =>
  if 2 ≤ x1 then
    (gR h0 a0 1 0 (fun a2 =>
    gI h0 a0 1 3 (fun x3 =>
    ldI h0 a2 0 (x3 - 2) (fun x4 =>
    gR h0 a0 1 0 (fun a5 =>
    gI h0 a0 1 3 (fun x6 =>
    ldI h0 a5 0 (x6 - 1) (fun x7 =>
    gI h0 a0 1 3 (fun x8 =>
    jn (fun (h9 : Hp) (x10 : Int32) =>
    gd (isO h9 a0 1 = true) ((FP_set h9 a0 x10 (x4 + x7) (-1) p1).bind (fun r13 =>
    gI r13 a0 1 3 (fun x14 =>
    pF r13 a0 1 3 (.int (x14 - 1)) (fun h15 =>
    some h15)))))
    (fun (K11 : Hp → Int32 → Option Hp) =>
    lpG (fun _ _ => none) fu (LP_joinLastTwo_40 a0 x4 x7 K11) h0 (x8 - 2))))))))))
  else
    (some h0))
set_option maxRecDepth 100000 in
set_option maxHeartbeats 4000000 in
theorem mP_joinLastTwo (l : Launch) (h0 : Hp) (z0 : Nat) (a0 : Nat) (p1 : Int32) (r : Hp) (hr : FP_joinLastTwo h0 a0 p1 = some r) : vM False l yP_joinLastTwo (Cond.code yP_joinLastTwo prog_3_method_3_code 4 none :: gW) 1 [.ref a0, .int p1] h0 z0 r z0 none 0 0 := by
  refine vM.of (by decide) rfl (Nat.le_of_ble_eq_true rfl) ?_
  intro p e s m args below meth c D dA C hin2
  refine (?_ : vO p l e (vR 1 0 0) s m args below meth c D dA (vA h0 z0) 4 False (fun r : Hp => MQ below (vQc False h0 z0 D dA r z0 none) args s 0 0 (vAr False h0 z0)) 0 0 h0 z0 [(0, .ref a0), (1, .int p1)] 0 [] (FP_joinLastTwo h0 a0 p1)) r hr
  obtain ⟨Q, hQ⟩ : ∃ Q : Hp → State → Prop, Q = (fun r : Hp => MQ below (vQc False h0 z0 D dA r z0 none) args s 0 0 (vAr False h0 z0)) := ⟨_, rfl⟩
  rw [← hQ]
  unfold FP_joinLastTwo
  refine v_aload_n C dP_joinLastTwo_0 rfl 0 rfl ?_
  refine v_getI C v_cl1 (by decide) in_1 rfl w_129 dP_joinLastTwo_1 (fun x1 => ?_)
  refine v_iconst (v := 2) C dP_joinLastTwo_4 (by decide) ?_
  refine v_icmp_ge (tgt := 9) C dP_joinLastTwo_5 (by decide) ?_ ?_
  · refine v_aload_n C dP_joinLastTwo_9 rfl 0 rfl ?_
    refine v_getR C v_cl1 (by decide) in_1 rfl w_123 dP_joinLastTwo_10 (fun a2 => ?_)
    refine v_aload_n C dP_joinLastTwo_13 rfl 0 rfl ?_
    refine v_getI C v_cl1 (by decide) in_1 rfl w_129 dP_joinLastTwo_14 (fun x3 => ?_)
    refine v_iconst (v := 2) C dP_joinLastTwo_17 (by decide) ?_
    refine v_isub C dP_joinLastTwo_18 ?_
    refine v_iald C rfl dP_joinLastTwo_19 (fun x4 => ?_)
    refine v_aload_n C dP_joinLastTwo_20 rfl 0 rfl ?_
    refine v_getR C v_cl1 (by decide) in_1 rfl w_123 dP_joinLastTwo_21 (fun a5 => ?_)
    refine v_aload_n C dP_joinLastTwo_24 rfl 0 rfl ?_
    refine v_getI C v_cl1 (by decide) in_1 rfl w_129 dP_joinLastTwo_25 (fun x6 => ?_)
    refine v_iconst (v := 1) C dP_joinLastTwo_28 (by decide) ?_
    refine v_isub C dP_joinLastTwo_29 ?_
    refine v_iald C rfl dP_joinLastTwo_30 (fun x7 => ?_)
    refine v_iadd C dP_joinLastTwo_31 ?_
    refine v_istore_n (lv' := [(0, .ref a0), (1, .int p1), (2, .int (x4 + x7))]) C dP_joinLastTwo_32 rfl (by decide) [1, 2, 0] rfl ?_
    refine v_aload_n C dP_joinLastTwo_33 rfl 0 rfl ?_
    refine v_getI C v_cl1 (by decide) in_1 rfl w_129 dP_joinLastTwo_34 (fun x8 => ?_)
    refine v_iconst (v := 2) C dP_joinLastTwo_37 (by decide) ?_
    refine v_isub C dP_joinLastTwo_38 ?_
    refine v_istore_n (lv' := [(0, .ref a0), (1, .int p1), (2, .int (x4 + x7)), (3, .int (x8 - 2))]) C dP_joinLastTwo_39 rfl (by decide) [1, 2, 3, 0] rfl ?_
    refine v_jn (fun (j : Hp → Int32 → Option Hp) => ∀ (h9 : Hp), ∀ (x10 : Int32), vO p l e (vR 1 0 0) s m args below meth c D dA (vA h0 z0) 4 False Q 0 0 h9 z0 [(0, .ref a0), (1, .int p1), (2, .int (x4 + x7)), (3, .int x10)] 91 [] (j h9 x10)) ?_ (fun K11 HK11 => ?_)
    · intro h9 x10
      refine v_aload_n C dP_joinLastTwo_91 rfl 0 rfl ?_
      refine v_iload_n C dP_joinLastTwo_92 rfl 3 rfl ?_
      refine v_iload_n C dP_joinLastTwo_93 rfl 2 rfl ?_
      refine v_iconst (v := (-1)) C dP_joinLastTwo_94 (by decide) ?_
      refine v_iload_n C dP_joinLastTwo_95 rfl 1 rfl ?_
      refine v_gd fun hO12 => ?_
      refine v_bind fun r13 hr13 => ?_
      refine v_callV0 (N := 4) (As := [.int x10, .int (x4 + x7), .int (-1), .int p1]) (st := []) C (fun f => f.elim) (mP_set l h9 z0 a0 x10 (x4 + x7) (-1) p1 r13 hr13) rfl w_346 w_49 (by decide +kernel) ⟨Nat.le_of_ble_eq_true rfl, Nat.le_of_ble_eq_true rfl⟩ rfl rfl (Nat.le_of_ble_eq_true rfl) ⟨Nat.zero_le _, Nat.zero_le _⟩ w_343 w_345 w_13 v_cl1 rfl hO12 dP_joinLastTwo_96 ?_
      refine v_aload_n C dP_joinLastTwo_99 rfl 0 rfl ?_
      refine v_dup C dP_joinLastTwo_100 rfl ?_
      refine v_getI C v_cl1 (by decide) in_1 rfl w_129 dP_joinLastTwo_101 (fun x14 => ?_)
      refine v_iconst (v := 1) C dP_joinLastTwo_104 (by decide) ?_
      refine v_isub C dP_joinLastTwo_105 ?_
      refine v_put C v_cl1 (by decide) in_1 ty_1 ty_1_ok nm_1 rfl w_129 rfl (ty := .int) (by decide +kernel) rfl rfl dP_joinLastTwo_106 (fun h15 => ?_)
      exact v_vret C dP_joinLastTwo_109 (by rw [hQ])
    · refine lpG_ind (bot := (fun _ _ => none)) (B := LP_joinLastTwo_40 a0 x4 x7 K11) (fun (r : Hp → Int32 → Option Hp) => ∀ (h16 : Hp), ∀ (x17 : Int32), vO p l e (vR 1 0 0) s m args below meth c D dA (vA h0 z0) 4 False Q 0 0 h16 z0 [(0, .ref a0), (1, .int p1), (2, .int (x4 + x7)), (3, .int x17)] 40 [] (r h16 x17)) ?_ ?_ fu h0 (x8 - 2)
      · intro h16 x17
        exact v_none
      · intro rec18 Hrec18 h16 x17
        unfold LP_joinLastTwo_40
        refine v_iload_n C dP_joinLastTwo_40 rfl 3 rfl ?_
        refine v_if_le (tgt := 91) C dP_joinLastTwo_41 (by decide) ?_ ?_
        · exact HK11 h16 x17
        · refine v_aload_n C dP_joinLastTwo_44 rfl 0 rfl ?_
          refine v_getR C v_cl1 (by decide) in_1 rfl w_123 dP_joinLastTwo_45 (fun a19 => ?_)
          refine v_iload_n C dP_joinLastTwo_48 rfl 3 rfl ?_
          refine v_iconst (v := 1) C dP_joinLastTwo_49 (by decide) ?_
          refine v_isub C dP_joinLastTwo_50 ?_
          refine v_iald C rfl dP_joinLastTwo_51 (fun x20 => ?_)
          refine v_iload_n C dP_joinLastTwo_52 rfl 2 rfl ?_
          refine v_icmp_ge (tgt := 91) C dP_joinLastTwo_53 (by decide) ?_ ?_
          · exact HK11 h16 x17
          · refine v_aload_n C dP_joinLastTwo_56 rfl 0 rfl ?_
            refine v_iload_n C dP_joinLastTwo_57 rfl 3 rfl ?_
            refine v_aload_n C dP_joinLastTwo_58 rfl 0 rfl ?_
            refine v_getR C v_cl1 (by decide) in_1 rfl w_123 dP_joinLastTwo_59 (fun a21 => ?_)
            refine v_iload_n C dP_joinLastTwo_62 rfl 3 rfl ?_
            refine v_iconst (v := 1) C dP_joinLastTwo_63 (by decide) ?_
            refine v_isub C dP_joinLastTwo_64 ?_
            refine v_iald C rfl dP_joinLastTwo_65 (fun x22 => ?_)
            refine v_aload_n C dP_joinLastTwo_66 rfl 0 rfl ?_
            refine v_getR C v_cl1 (by decide) in_1 rfl w_125 dP_joinLastTwo_67 (fun a23 => ?_)
            refine v_iload_n C dP_joinLastTwo_70 rfl 3 rfl ?_
            refine v_iconst (v := 1) C dP_joinLastTwo_71 (by decide) ?_
            refine v_isub C dP_joinLastTwo_72 ?_
            refine v_iald C rfl dP_joinLastTwo_73 (fun x24 => ?_)
            refine v_aload_n C dP_joinLastTwo_74 rfl 0 rfl ?_
            refine v_getR C v_cl1 (by decide) in_1 rfl w_127 dP_joinLastTwo_75 (fun a25 => ?_)
            refine v_iload_n C dP_joinLastTwo_78 rfl 3 rfl ?_
            refine v_iconst (v := 1) C dP_joinLastTwo_79 (by decide) ?_
            refine v_isub C dP_joinLastTwo_80 ?_
            refine v_iald C rfl dP_joinLastTwo_81 (fun x26 => ?_)
            refine v_gd fun hO27 => ?_
            refine v_bind fun r28 hr28 => ?_
            refine v_callV0 (N := 4) (As := [.int x17, .int x22, .int x24, .int x26]) (st := []) C (fun f => f.elim) (mP_set l h16 z0 a0 x17 x22 x24 x26 r28 hr28) rfl w_346 w_49 (by decide +kernel) ⟨Nat.le_of_ble_eq_true rfl, Nat.le_of_ble_eq_true rfl⟩ rfl rfl (Nat.le_of_ble_eq_true rfl) ⟨Nat.zero_le _, Nat.zero_le _⟩ w_343 w_345 w_13 v_cl1 rfl hO27 dP_joinLastTwo_82 ?_
            refine v_iinc (v := (x17 + (-1))) (lv' := [(0, .ref a0), (1, .int p1), (2, .int (x4 + x7)), (3, .int (x17 + (-1)))]) C dP_joinLastTwo_85 3 rfl rfl (by decide) [1, 2, 3, 0] rfl ?_
            refine v_goto (tgt := 40) C dP_joinLastTwo_88 (by decide) ?_
            exact Hrec18 r28 (x17 + (-1))
  · exact v_vret C dP_joinLastTwo_8 (by rw [hQ])
theorem dT_halve_0 : decode prog_5_method_15_code 0 = .ok (.aload_n 0, 1) := by decide +kernel
theorem dT_halve_1 : decode prog_5_method_15_code 1 = .ok (.invokevirtual 96, 3) := by decide +kernel
theorem dT_halve_4 : decode prog_5_method_15_code 4 = .ok (.aload_n 0, 1) := by decide +kernel
theorem dT_halve_5 : decode prog_5_method_15_code 5 = .ok (.getfield 15, 3) := by decide +kernel
theorem dT_halve_8 : decode prog_5_method_15_code 8 = .ok (.istore_n 1, 1) := by decide +kernel
theorem dT_halve_9 : decode prog_5_method_15_code 9 = .ok (.aload_n 0, 1) := by decide +kernel
theorem dT_halve_10 : decode prog_5_method_15_code 10 = .ok (.getfield 27, 3) := by decide +kernel
theorem dT_halve_13 : decode prog_5_method_15_code 13 = .ok (.getfield 99, 3) := by decide +kernel
theorem dT_halve_16 : decode prog_5_method_15_code 16 = .ok (.iconst 2, 1) := by decide +kernel
theorem dT_halve_17 : decode prog_5_method_15_code 17 = .ok (.if_icmp .lt 52, 3) := by decide +kernel
theorem dT_halve_20 : decode prog_5_method_15_code 20 = .ok (.iload_n 1, 1) := by decide +kernel
theorem dT_halve_21 : decode prog_5_method_15_code 21 = .ok (.iconst 2, 1) := by decide +kernel
theorem dT_halve_22 : decode prog_5_method_15_code 22 = .ok (.if_icmp .le 47, 3) := by decide +kernel
theorem dT_halve_25 : decode prog_5_method_15_code 25 = .ok (.iinc 1 (-2), 3) := by decide +kernel
theorem dT_halve_28 : decode prog_5_method_15_code 28 = .ok (.aload_n 0, 1) := by decide +kernel
theorem dT_halve_29 : decode prog_5_method_15_code 29 = .ok (.aload_n 0, 1) := by decide +kernel
theorem dT_halve_30 : decode prog_5_method_15_code 30 = .ok (.getfield 27, 3) := by decide +kernel
theorem dT_halve_33 : decode prog_5_method_15_code 33 = .ok (.getfield 99, 3) := by decide +kernel
theorem dT_halve_36 : decode prog_5_method_15_code 36 = .ok (.iconst 2, 1) := by decide +kernel
theorem dT_halve_37 : decode prog_5_method_15_code 37 = .ok (.isub, 1) := by decide +kernel
theorem dT_halve_38 : decode prog_5_method_15_code 38 = .ok (.iload_n 1, 1) := by decide +kernel
theorem dT_halve_39 : decode prog_5_method_15_code 39 = .ok (.invokevirtual 102, 3) := by decide +kernel
theorem dT_halve_42 : decode prog_5_method_15_code 42 = .ok (.aload_n 0, 1) := by decide +kernel
theorem dT_halve_43 : decode prog_5_method_15_code 43 = .ok (.aload_n 0, 1) := by decide +kernel
theorem dT_halve_44 : decode prog_5_method_15_code 44 = .ok (.getfield 27, 3) := by decide +kernel
theorem dT_halve_47 : decode prog_5_method_15_code 47 = .ok (.getfield 99, 3) := by decide +kernel
theorem dT_halve_50 : decode prog_5_method_15_code 50 = .ok (.iconst 1, 1) := by decide +kernel
theorem dT_halve_51 : decode prog_5_method_15_code 51 = .ok (.isub, 1) := by decide +kernel
theorem dT_halve_52 : decode prog_5_method_15_code 52 = .ok (.iload_n 1, 1) := by decide +kernel
theorem dT_halve_53 : decode prog_5_method_15_code 53 = .ok (.iconst 1, 1) := by decide +kernel
theorem dT_halve_54 : decode prog_5_method_15_code 54 = .ok (.iadd, 1) := by decide +kernel
theorem dT_halve_55 : decode prog_5_method_15_code 55 = .ok (.invokevirtual 102, 3) := by decide +kernel
theorem dT_halve_58 : decode prog_5_method_15_code 58 = .ok (.aload_n 0, 1) := by decide +kernel
theorem dT_halve_59 : decode prog_5_method_15_code 59 = .ok (.getfield 27, 3) := by decide +kernel
theorem dT_halve_62 : decode prog_5_method_15_code 62 = .ok (.iload_n 1, 1) := by decide +kernel
theorem dT_halve_63 : decode prog_5_method_15_code 63 = .ok (.invokevirtual 105, 3) := by decide +kernel
theorem dT_halve_66 : decode prog_5_method_15_code 66 = .ok (.goto (-57), 3) := by decide +kernel
theorem dT_halve_69 : decode prog_5_method_15_code 69 = .ok (.aload_n 0, 1) := by decide +kernel
theorem dT_halve_70 : decode prog_5_method_15_code 70 = .ok (.iconst 0, 1) := by decide +kernel
theorem dT_halve_71 : decode prog_5_method_15_code 71 = .ok (.iconst 0, 1) := by decide +kernel
theorem dT_halve_72 : decode prog_5_method_15_code 72 = .ok (.invokevirtual 102, 3) := by decide +kernel
theorem dT_halve_75 : decode prog_5_method_15_code 75 = .ok (.aload_n 0, 1) := by decide +kernel
theorem dT_halve_76 : decode prog_5_method_15_code 76 = .ok (.dup, 1) := by decide +kernel
theorem dT_halve_77 : decode prog_5_method_15_code 77 = .ok (.getfield 21, 3) := by decide +kernel
theorem dT_halve_80 : decode prog_5_method_15_code 80 = .ok (.iconst 1, 1) := by decide +kernel
theorem dT_halve_81 : decode prog_5_method_15_code 81 = .ok (.iadd, 1) := by decide +kernel
theorem dT_halve_82 : decode prog_5_method_15_code 82 = .ok (.putfield 21, 3) := by decide +kernel
theorem dT_halve_85 : decode prog_5_method_15_code 85 = .ok (.return_, 1) := by decide +kernel
def LT_halve_9 (a0 : Nat) (K5 : Hp → Option Hp) (rec12 : Hp → Int32 → Option Hp) (h10 : Hp) (x11 : Int32) : Option Hp :=
  gR h10 a0 3 1 (fun a13 =>
  gI h10 a13 1 3 (fun x14 =>
  if x14 < 2 then
    (K5 h10)
  else
    (if x11 ≤ 2 then
      (K5 h10)
    else
      (gR h10 a0 3 1 (fun a15 =>
      gI h10 a15 1 3 (fun x16 =>
      gd (isO h10 a0 3 = true) ((FT_settle h10 a0 (x16 - 2) (x11 + (-2))).bind (fun r18 =>
      gR r18 a0 3 1 (fun a19 =>
      gI r18 a19 1 3 (fun x20 =>
      gd (isO r18 a0 3 = true) ((FT_settle r18 a0 (x20 - 1) ((x11 + (-2)) + 1)).bind (fun r22 =>
      gR r22 a0 3 1 (fun a23 =>
      gd (isO r22 a23 1 = true) ((FP_joinLastTwo r22 a23 (x11 + (-2))).bind (fun r25 =>
      rec12 r25 (x11 + (-2)))))))))))))))))
def FT_halve (h0 : Hp) (a0 : Nat) : Option Hp :=
  gd (isO h0 a0 3 = true) ((FT_gatherPieces h0 a0).bind (fun r2 =>
  gI r2 a0 3 9 (fun x3 =>
  jn (fun (h4 : Hp) =>
  gd (isO h4 a0 3 = true) ((FT_settle h4 a0 0 0).bind (fun r7 =>
  gI r7 a0 3 11 (fun x8 =>
  pF r7 a0 3 11 (.int (x8 + 1)) (fun h9 =>
  some h9)))))
  (fun (K5 : Hp → Option Hp) =>
  lpG (fun _ _ => none) fu (LT_halve_9 a0 K5) r2 x3))))
set_option maxRecDepth 100000 in
set_option maxHeartbeats 4000000 in
theorem mT_halve (l : Launch) (h0 : Hp) (z0 : Nat) (a0 : Nat) (r : Hp) (hr : FT_halve h0 a0 = some r) : vM False l yT_halve (Cond.code yT_halve prog_5_method_15_code 2 none :: gW) 3 [.ref a0] h0 z0 r z0 none 0 0 := by
  refine vM.of (by decide) rfl (Nat.le_of_ble_eq_true rfl) ?_
  intro p e s m args below meth c D dA C hin2
  refine (?_ : vO p l e (vR 3 0 0) s m args below meth c D dA (vA h0 z0) 2 False (fun r : Hp => MQ below (vQc False h0 z0 D dA r z0 none) args s 0 0 (vAr False h0 z0)) 0 0 h0 z0 [(0, .ref a0)] 0 [] (FT_halve h0 a0)) r hr
  obtain ⟨Q, hQ⟩ : ∃ Q : Hp → State → Prop, Q = (fun r : Hp => MQ below (vQc False h0 z0 D dA r z0 none) args s 0 0 (vAr False h0 z0)) := ⟨_, rfl⟩
  rw [← hQ]
  unfold FT_halve
  refine v_aload_n C dT_halve_0 rfl 0 rfl ?_
  refine v_gd fun hO1 => ?_
  refine v_bind fun r2 hr2 => ?_
  refine v_callV0 (N := 0) (As := []) (st := []) C (fun f => f.elim) (mT_gatherPieces l h0 z0 a0 r2 hr2) rfl w_338 w_50 (by decide +kernel) ⟨Nat.le_of_ble_eq_true rfl, Nat.le_of_ble_eq_true rfl⟩ rfl rfl (Nat.le_of_ble_eq_true rfl) ⟨Nat.zero_le _, Nat.zero_le _⟩ w_335 w_337 w_12 v_cl3 rfl hO1 dT_halve_1 ?_
  refine v_aload_n C dT_halve_4 rfl 0 rfl ?_
  refine v_getI C v_cl3 (by decide) in_3 rfl w_169 dT_halve_5 (fun x3 => ?_)
  refine v_istore_n (lv' := [(0, .ref a0), (1, .int x3)]) C dT_halve_8 rfl (by decide) [1, 0] rfl ?_
  refine v_jn (fun (j : Hp → Option Hp) => ∀ (h4 : Hp), vO p l e (vR 3 0 0) s m args below meth c D dA (vA h0 z0) 2 False Q 0 0 h4 z0 [(0, .ref a0)] 69 [] (j h4)) ?_ (fun K5 HK5 => ?_)
  · intro h4
    refine v_aload_n C dT_halve_69 rfl 0 rfl ?_
    refine v_iconst (v := 0) C dT_halve_70 (by decide) ?_
    refine v_iconst (v := 0) C dT_halve_71 (by decide) ?_
    refine v_gd fun hO6 => ?_
    refine v_bind fun r7 hr7 => ?_
    refine v_callV0 (N := 2) (As := [.int 0, .int 0]) (st := []) C (fun f => f.elim) (mT_settle l h4 z0 a0 0 0 r7 hr7) rfl w_350 w_50 (by decide +kernel) ⟨Nat.le_of_ble_eq_true rfl, Nat.le_of_ble_eq_true rfl⟩ rfl rfl (Nat.le_of_ble_eq_true rfl) ⟨Nat.zero_le _, Nat.zero_le _⟩ w_347 w_349 w_14 v_cl3 rfl hO6 dT_halve_72 ?_
    refine v_aload_n C dT_halve_75 rfl 0 rfl ?_
    refine v_dup C dT_halve_76 rfl ?_
    refine v_getI C v_cl3 (by decide) in_3 rfl w_173 dT_halve_77 (fun x8 => ?_)
    refine v_iconst (v := 1) C dT_halve_80 (by decide) ?_
    refine v_iadd C dT_halve_81 ?_
    refine v_put C v_cl3 (by decide) in_3 ty_3 ty_3_ok nm_3 rfl w_173 rfl (ty := .int) (by decide +kernel) rfl rfl dT_halve_82 (fun h9 => ?_)
    exact v_vret C dT_halve_85 (by rw [hQ])
  · refine lpG_ind (bot := (fun _ _ => none)) (B := LT_halve_9 a0 K5) (fun (r : Hp → Int32 → Option Hp) => ∀ (h10 : Hp), ∀ (x11 : Int32), vO p l e (vR 3 0 0) s m args below meth c D dA (vA h0 z0) 2 False Q 0 0 h10 z0 [(0, .ref a0), (1, .int x11)] 9 [] (r h10 x11)) ?_ ?_ fu r2 x3
    · intro h10 x11
      exact v_none
    · intro rec12 Hrec12 h10 x11
      unfold LT_halve_9
      refine v_aload_n C dT_halve_9 rfl 0 rfl ?_
      refine v_getR C v_cl3 (by decide) in_3 rfl w_155 dT_halve_10 (fun a13 => ?_)
      refine v_getIN C v_cl1 (by decide) in_1 rfl (nf_13 C.2.2.2.2.2.2.2.2.2) dT_halve_13 (fun x14 => ?_)
      refine v_iconst (v := 2) C dT_halve_16 (by decide) ?_
      refine v_icmp_lt (tgt := 69) C dT_halve_17 (by decide) ?_ ?_
      · refine v_lv (lv' := [(0, .ref a0)]) [0] rfl ?_
        exact HK5 h10
      · refine v_iload_n C dT_halve_20 rfl 1 rfl ?_
        refine v_iconst (v := 2) C dT_halve_21 (by decide) ?_
        refine v_icmp_le (tgt := 69) C dT_halve_22 (by decide) ?_ ?_
        · refine v_lv (lv' := [(0, .ref a0)]) [0] rfl ?_
          exact HK5 h10
        · refine v_iinc (v := (x11 + (-2))) (lv' := [(0, .ref a0), (1, .int (x11 + (-2)))]) C dT_halve_25 1 rfl rfl (by decide) [1, 0] rfl ?_
          refine v_aload_n C dT_halve_28 rfl 0 rfl ?_
          refine v_aload_n C dT_halve_29 rfl 0 rfl ?_
          refine v_getR C v_cl3 (by decide) in_3 rfl w_155 dT_halve_30 (fun a15 => ?_)
          refine v_getIN C v_cl1 (by decide) in_1 rfl (nf_13 C.2.2.2.2.2.2.2.2.2) dT_halve_33 (fun x16 => ?_)
          refine v_iconst (v := 2) C dT_halve_36 (by decide) ?_
          refine v_isub C dT_halve_37 ?_
          refine v_iload_n C dT_halve_38 rfl 1 rfl ?_
          refine v_gd fun hO17 => ?_
          refine v_bind fun r18 hr18 => ?_
          refine v_callV0 (N := 2) (As := [.int (x16 - 2), .int (x11 + (-2))]) (st := []) C (fun f => f.elim) (mT_settle l h10 z0 a0 (x16 - 2) (x11 + (-2)) r18 hr18) rfl w_350 w_50 (by decide +kernel) ⟨Nat.le_of_ble_eq_true rfl, Nat.le_of_ble_eq_true rfl⟩ rfl rfl (Nat.le_of_ble_eq_true rfl) ⟨Nat.zero_le _, Nat.zero_le _⟩ w_347 w_349 w_14 v_cl3 rfl hO17 dT_halve_39 ?_
          refine v_aload_n C dT_halve_42 rfl 0 rfl ?_
          refine v_aload_n C dT_halve_43 rfl 0 rfl ?_
          refine v_getR C v_cl3 (by decide) in_3 rfl w_155 dT_halve_44 (fun a19 => ?_)
          refine v_getIN C v_cl1 (by decide) in_1 rfl (nf_13 C.2.2.2.2.2.2.2.2.2) dT_halve_47 (fun x20 => ?_)
          refine v_iconst (v := 1) C dT_halve_50 (by decide) ?_
          refine v_isub C dT_halve_51 ?_
          refine v_iload_n C dT_halve_52 rfl 1 rfl ?_
          refine v_iconst (v := 1) C dT_halve_53 (by decide) ?_
          refine v_iadd C dT_halve_54 ?_
          refine v_gd fun hO21 => ?_
          refine v_bind fun r22 hr22 => ?_
          refine v_callV0 (N := 2) (As := [.int (x20 - 1), .int ((x11 + (-2)) + 1)]) (st := []) C (fun f => f.elim) (mT_settle l r18 z0 a0 (x20 - 1) ((x11 + (-2)) + 1) r22 hr22) rfl w_350 w_50 (by decide +kernel) ⟨Nat.le_of_ble_eq_true rfl, Nat.le_of_ble_eq_true rfl⟩ rfl rfl (Nat.le_of_ble_eq_true rfl) ⟨Nat.zero_le _, Nat.zero_le _⟩ w_347 w_349 w_14 v_cl3 rfl hO21 dT_halve_55 ?_
          refine v_aload_n C dT_halve_58 rfl 0 rfl ?_
          refine v_getR C v_cl3 (by decide) in_3 rfl w_155 dT_halve_59 (fun a23 => ?_)
          refine v_iload_n C dT_halve_62 rfl 1 rfl ?_
          refine v_gd fun hO24 => ?_
          refine v_bind fun r25 hr25 => ?_
          refine v_callV0 (N := 1) (As := [.int (x11 + (-2))]) (st := []) C (fun f => f.elim) (mP_joinLastTwo l r22 z0 a23 (x11 + (-2)) r25 hr25) rfl w_354 w_49 (by decide +kernel) ⟨Nat.le_of_ble_eq_true rfl, Nat.le_of_ble_eq_true rfl⟩ rfl rfl (Nat.le_of_ble_eq_true rfl) ⟨Nat.zero_le _, Nat.zero_le _⟩ w_351 w_352 w_353 v_cl1 rfl hO24 dT_halve_63 ?_
          refine v_goto (tgt := 9) C dT_halve_66 (by decide) ?_
          exact Hrec12 r25 (x11 + (-2))
theorem dT_stepBy_0 : decode prog_5_method_10_code 0 = .ok (.aload_n 0, 1) := by decide +kernel
theorem dT_stepBy_1 : decode prog_5_method_10_code 1 = .ok (.getfield 9, 3) := by decide +kernel
theorem dT_stepBy_4 : decode prog_5_method_10_code 4 = .ok (.iconst 1, 1) := by decide +kernel
theorem dT_stepBy_5 : decode prog_5_method_10_code 5 = .ok (.if_icmp .ne 9, 3) := by decide +kernel
theorem dT_stepBy_8 : decode prog_5_method_10_code 8 = .ok (.aload_n 0, 1) := by decide +kernel
theorem dT_stepBy_9 : decode prog_5_method_10_code 9 = .ok (.iload_n 1, 1) := by decide +kernel
theorem dT_stepBy_10 : decode prog_5_method_10_code 10 = .ok (.invokevirtual 73, 3) := by decide +kernel
theorem dT_stepBy_13 : decode prog_5_method_10_code 13 = .ok (.return_, 1) := by decide +kernel
theorem dT_stepBy_14 : decode prog_5_method_10_code 14 = .ok (.aload_n 0, 1) := by decide +kernel
theorem dT_stepBy_15 : decode prog_5_method_10_code 15 = .ok (.iload_n 1, 1) := by decide +kernel
theorem dT_stepBy_16 : decode prog_5_method_10_code 16 = .ok (.invokevirtual 76, 3) := by decide +kernel
theorem dT_stepBy_19 : decode prog_5_method_10_code 19 = .ok (.ifCond .ne 8, 3) := by decide +kernel
theorem dT_stepBy_22 : decode prog_5_method_10_code 22 = .ok (.aload_n 0, 1) := by decide +kernel
theorem dT_stepBy_23 : decode prog_5_method_10_code 23 = .ok (.iload_n 1, 1) := by decide +kernel
theorem dT_stepBy_24 : decode prog_5_method_10_code 24 = .ok (.invokevirtual 80, 3) := by decide +kernel
theorem dT_stepBy_27 : decode prog_5_method_10_code 27 = .ok (.aload_n 0, 1) := by decide +kernel
theorem dT_stepBy_28 : decode prog_5_method_10_code 28 = .ok (.iload_n 1, 1) := by decide +kernel
theorem dT_stepBy_29 : decode prog_5_method_10_code 29 = .ok (.invokevirtual 83, 3) := by decide +kernel
theorem dT_stepBy_32 : decode prog_5_method_10_code 32 = .ok (.aload_n 0, 1) := by decide +kernel
theorem dT_stepBy_33 : decode prog_5_method_10_code 33 = .ok (.getfield 35, 3) := by decide +kernel
theorem dT_stepBy_36 : decode prog_5_method_10_code 36 = .ok (.iconst 0, 1) := by decide +kernel
theorem dT_stepBy_37 : decode prog_5_method_10_code 37 = .ok (.iaload, 1) := by decide +kernel
theorem dT_stepBy_38 : decode prog_5_method_10_code 38 = .ok (.iload_n 2, 1) := by decide +kernel
theorem dT_stepBy_39 : decode prog_5_method_10_code 39 = .ok (.if_icmp .lt 7, 3) := by decide +kernel
theorem dT_stepBy_42 : decode prog_5_method_10_code 42 = .ok (.aload_n 0, 1) := by decide +kernel
theorem dT_stepBy_43 : decode prog_5_method_10_code 43 = .ok (.invokevirtual 86, 3) := by decide +kernel
theorem dT_stepBy_46 : decode prog_5_method_10_code 46 = .ok (.return_, 1) := by decide +kernel
def FT_stepBy (h0 : Hp) (a0 : Nat) (p1 : Int32) (p2 : Int32) : Option Hp :=
  gI h0 a0 3 8 (fun x1 =>
  if x1 = 1 then
    (gd (isO h0 a0 3 = true) ((FT_stepSplayed h0 a0 p1).bind (fun r17 =>
    some r17)))
  else
    (gd (isO h0 a0 3 = true) ((FT_hasLeafOf h0 a0 p1).bind (fun r3 =>
    jn (fun (h4 : Hp) =>
    gd (isO h4 a0 3 = true) ((FT_stepCounted h4 a0 p1).bind (fun r7 =>
    gR r7 a0 3 2 (fun a8 =>
    ldI r7 a8 0 0 (fun x9 =>
    jn (fun (h10 : Hp) =>
    some h10)
    (fun (j11 : Hp → Option Hp) =>
    if x9 < p2 then
      (j11 r7)
    else
      (gd (isO r7 a0 3 = true) ((FT_halve r7 a0).bind (fun r13 =>
      j11 r13)))))))))
    (fun (j5 : Hp → Option Hp) =>
    if r3 = 0 then
      (gd (isO h0 a0 3 = true) ((FT_splitEscapeFor h0 a0 p1).bind (fun r15 =>
      j5 r15)))
    else
      (j5 h0))))))
set_option maxRecDepth 100000 in
set_option maxHeartbeats 4000000 in
theorem mT_stepBy (l : Launch) (h0 : Hp) (z0 : Nat) (a0 : Nat) (p1 : Int32) (p2 : Int32) (r : Hp) (hr : FT_stepBy h0 a0 p1 p2 = some r) : vM False l yT_stepBy (Cond.code yT_stepBy prog_5_method_10_code 3 none :: gW) 4 [.ref a0, .int p1, .int p2] h0 z0 r z0 none 0 0 := by
  refine vM.of (by decide) rfl (Nat.le_of_ble_eq_true rfl) ?_
  intro p e s m args below meth c D dA C hin2
  refine (?_ : vO p l e (vR 4 0 0) s m args below meth c D dA (vA h0 z0) 3 False (fun r : Hp => MQ below (vQc False h0 z0 D dA r z0 none) args s 0 0 (vAr False h0 z0)) 0 0 h0 z0 [(0, .ref a0), (1, .int p1), (2, .int p2)] 0 [] (FT_stepBy h0 a0 p1 p2)) r hr
  obtain ⟨Q, hQ⟩ : ∃ Q : Hp → State → Prop, Q = (fun r : Hp => MQ below (vQc False h0 z0 D dA r z0 none) args s 0 0 (vAr False h0 z0)) := ⟨_, rfl⟩
  rw [← hQ]
  unfold FT_stepBy
  refine v_aload_n C dT_stepBy_0 rfl 0 rfl ?_
  refine v_getI C v_cl3 (by decide) in_3 rfl w_167 dT_stepBy_1 (fun x1 => ?_)
  refine v_iconst (v := 1) C dT_stepBy_4 (by decide) ?_
  refine v_icmp_ne (tgt := 14) C dT_stepBy_5 (by decide) ?_ ?_
  · refine v_aload_n C dT_stepBy_14 rfl 0 rfl ?_
    refine v_iload_n C dT_stepBy_15 rfl 1 rfl ?_
    refine v_gd fun hO2 => ?_
    refine v_bind fun r3 hr3 => ?_
    refine v_callV0 (N := 1) (As := [.int p1]) (st := []) C (fun _ => trivial) (mT_hasLeafOf l h0 z0 a0 p1 r3 hr3) rfl w_280 w_50 (by decide +kernel) ⟨Nat.le_of_ble_eq_true rfl, Nat.le_of_ble_eq_true rfl⟩ rfl rfl (Nat.le_of_ble_eq_true rfl) ⟨Nat.zero_le _, Nat.zero_le _⟩ w_314 w_278 w_279 v_cl3 rfl hO2 dT_stepBy_16 ?_
    refine v_jn (fun (j : Hp → Option Hp) => ∀ (h4 : Hp), vO p l e (vR 4 0 0) s m args below meth c D dA (vA h0 z0) 3 False Q 0 0 h4 z0 [(0, .ref a0), (1, .int p1), (2, .int p2)] 27 [] (j h4)) ?_ (fun j5 Hj5 => ?_)
    · intro h4
      refine v_aload_n C dT_stepBy_27 rfl 0 rfl ?_
      refine v_iload_n C dT_stepBy_28 rfl 1 rfl ?_
      refine v_gd fun hO6 => ?_
      refine v_bind fun r7 hr7 => ?_
      refine v_callV0 (N := 1) (As := [.int p1]) (st := []) C (fun f => f.elim) (mT_stepCounted l h4 z0 a0 p1 r7 hr7) rfl w_322 w_50 (by decide +kernel) ⟨Nat.le_of_ble_eq_true rfl, Nat.le_of_ble_eq_true rfl⟩ rfl rfl (Nat.le_of_ble_eq_true rfl) ⟨Nat.zero_le _, Nat.zero_le _⟩ w_319 w_321 w_8 v_cl3 rfl hO6 dT_stepBy_29 ?_
      refine v_aload_n C dT_stepBy_32 rfl 0 rfl ?_
      refine v_getR C v_cl3 (by decide) in_3 rfl w_156 dT_stepBy_33 (fun a8 => ?_)
      refine v_iconst (v := 0) C dT_stepBy_36 (by decide) ?_
      refine v_iald C rfl dT_stepBy_37 (fun x9 => ?_)
      refine v_iload_n C dT_stepBy_38 rfl 2 rfl ?_
      refine v_jn (fun (j : Hp → Option Hp) => ∀ (h10 : Hp), vO p l e (vR 4 0 0) s m args below meth c D dA (vA h0 z0) 3 False Q 0 0 h10 z0 [] 46 [] (j h10)) ?_ (fun j11 Hj11 => ?_)
      · intro h10
        exact v_vret C dT_stepBy_46 (by rw [hQ])
      · refine v_icmp_lt (tgt := 46) C dT_stepBy_39 (by decide) ?_ ?_
        · refine v_lv (lv' := []) [] rfl ?_
          exact Hj11 r7
        · refine v_aload_n C dT_stepBy_42 rfl 0 rfl ?_
          refine v_gd fun hO12 => ?_
          refine v_bind fun r13 hr13 => ?_
          refine v_callV0 (N := 0) (As := []) (st := []) C (fun f => f.elim) (mT_halve l r7 z0 a0 r13 hr13) rfl w_334 w_50 (by decide +kernel) ⟨Nat.le_of_ble_eq_true rfl, Nat.le_of_ble_eq_true rfl⟩ rfl rfl (Nat.le_of_ble_eq_true rfl) ⟨Nat.zero_le _, Nat.zero_le _⟩ w_331 w_333 w_11 v_cl3 rfl hO12 dT_stepBy_43 ?_
          refine v_lv (lv' := []) [] rfl ?_
          exact Hj11 r13
    · refine v_if_ne (tgt := 27) C dT_stepBy_19 (by decide) ?_ ?_
      · exact Hj5 h0
      · refine v_aload_n C dT_stepBy_22 rfl 0 rfl ?_
        refine v_iload_n C dT_stepBy_23 rfl 1 rfl ?_
        refine v_gd fun hO14 => ?_
        refine v_bind fun r15 hr15 => ?_
        refine v_callV0 (N := 1) (As := [.int p1]) (st := []) C (fun f => f.elim) (mT_splitEscapeFor l h0 z0 a0 p1 r15 hr15) rfl w_318 w_50 (by decide +kernel) ⟨Nat.le_of_ble_eq_true rfl, Nat.le_of_ble_eq_true rfl⟩ rfl rfl (Nat.le_of_ble_eq_true rfl) ⟨Nat.zero_le _, Nat.zero_le _⟩ w_315 w_317 w_7 v_cl3 rfl hO14 dT_stepBy_24 ?_
        exact Hj5 r15
  · refine v_aload_n C dT_stepBy_8 rfl 0 rfl ?_
    refine v_iload_n C dT_stepBy_9 rfl 1 rfl ?_
    refine v_gd fun hO16 => ?_
    refine v_bind fun r17 hr17 => ?_
    refine v_callV0 (N := 1) (As := [.int p1]) (st := []) C (fun f => f.elim) (mT_stepSplayed l h0 z0 a0 p1 r17 hr17) rfl w_309 w_50 (by decide +kernel) ⟨Nat.le_of_ble_eq_true rfl, Nat.le_of_ble_eq_true rfl⟩ rfl rfl (Nat.le_of_ble_eq_true rfl) ⟨Nat.zero_le _, Nat.zero_le _⟩ w_306 w_308 w_5 v_cl3 rfl hO16 dT_stepBy_10 ?_
    exact v_vret C dT_stepBy_13 (by rw [hQ])
theorem dA_put_0 : decode prog_1_method_4_code 0 = .ok (.iload_n 1, 1) := by decide +kernel
theorem dA_put_1 : decode prog_1_method_4_code 1 = .ok (.invokestatic 83, 3) := by decide +kernel
theorem dA_put_4 : decode prog_1_method_4_code 4 = .ok (.ifCond .ne 6, 3) := by decide +kernel
theorem dA_put_7 : decode prog_1_method_4_code 7 = .ok (.bipush (-2), 2) := by decide +kernel
theorem dA_put_9 : decode prog_1_method_4_code 9 = .ok (.ireturn, 1) := by decide +kernel
theorem dA_put_10 : decode prog_1_method_4_code 10 = .ok (.aload_n 0, 1) := by decide +kernel
theorem dA_put_11 : decode prog_1_method_4_code 11 = .ok (.iload_n 2, 1) := by decide +kernel
theorem dA_put_12 : decode prog_1_method_4_code 12 = .ok (.invokevirtual 97, 3) := by decide +kernel
theorem dA_put_15 : decode prog_1_method_4_code 15 = .ok (.ifCond .ne 6, 3) := by decide +kernel
theorem dA_put_18 : decode prog_1_method_4_code 18 = .ok (.bipush (-3), 2) := by decide +kernel
theorem dA_put_20 : decode prog_1_method_4_code 20 = .ok (.ireturn, 1) := by decide +kernel
theorem dA_put_21 : decode prog_1_method_4_code 21 = .ok (.aload_n 0, 1) := by decide +kernel
theorem dA_put_22 : decode prog_1_method_4_code 22 = .ok (.aload_n 0, 1) := by decide +kernel
theorem dA_put_23 : decode prog_1_method_4_code 23 = .ok (.getfield 11, 3) := by decide +kernel
theorem dA_put_26 : decode prog_1_method_4_code 26 = .ok (.iload_n 1, 1) := by decide +kernel
theorem dA_put_27 : decode prog_1_method_4_code 27 = .ok (.aaload, 1) := by decide +kernel
theorem dA_put_28 : decode prog_1_method_4_code 28 = .ok (.iload_n 2, 1) := by decide +kernel
theorem dA_put_29 : decode prog_1_method_4_code 29 = .ok (.invokevirtual 100, 3) := by decide +kernel
theorem dA_put_32 : decode prog_1_method_4_code 32 = .ok (.aload_n 0, 1) := by decide +kernel
theorem dA_put_33 : decode prog_1_method_4_code 33 = .ok (.getfield 73, 3) := by decide +kernel
theorem dA_put_36 : decode prog_1_method_4_code 36 = .ok (.getfield 104, 3) := by decide +kernel
theorem dA_put_39 : decode prog_1_method_4_code 39 = .ok (.sipush 1000, 3) := by decide +kernel
theorem dA_put_42 : decode prog_1_method_4_code 42 = .ok (.aload_n 0, 1) := by decide +kernel
theorem dA_put_43 : decode prog_1_method_4_code 43 = .ok (.getfield 29, 3) := by decide +kernel
theorem dA_put_46 : decode prog_1_method_4_code 46 = .ok (.isub, 1) := by decide +kernel
theorem dA_put_47 : decode prog_1_method_4_code 47 = .ok (.if_icmp .le 6, 3) := by decide +kernel
theorem dA_put_50 : decode prog_1_method_4_code 50 = .ok (.bipush (-5), 2) := by decide +kernel
theorem dA_put_52 : decode prog_1_method_4_code 52 = .ok (.ireturn, 1) := by decide +kernel
theorem dA_put_53 : decode prog_1_method_4_code 53 = .ok (.iconst 0, 1) := by decide +kernel
theorem dA_put_54 : decode prog_1_method_4_code 54 = .ok (.istore_n 3, 1) := by decide +kernel
theorem dA_put_55 : decode prog_1_method_4_code 55 = .ok (.iload_n 3, 1) := by decide +kernel
theorem dA_put_56 : decode prog_1_method_4_code 56 = .ok (.aload_n 0, 1) := by decide +kernel
theorem dA_put_57 : decode prog_1_method_4_code 57 = .ok (.getfield 73, 3) := by decide +kernel
theorem dA_put_60 : decode prog_1_method_4_code 60 = .ok (.getfield 104, 3) := by decide +kernel
theorem dA_put_63 : decode prog_1_method_4_code 63 = .ok (.if_icmp .ge 36, 3) := by decide +kernel
theorem dA_put_66 : decode prog_1_method_4_code 66 = .ok (.aload_n 0, 1) := by decide +kernel
theorem dA_put_67 : decode prog_1_method_4_code 67 = .ok (.getfield 25, 3) := by decide +kernel
theorem dA_put_70 : decode prog_1_method_4_code 70 = .ok (.aload_n 0, 1) := by decide +kernel
theorem dA_put_71 : decode prog_1_method_4_code 71 = .ok (.getfield 29, 3) := by decide +kernel
theorem dA_put_74 : decode prog_1_method_4_code 74 = .ok (.aload_n 0, 1) := by decide +kernel
theorem dA_put_75 : decode prog_1_method_4_code 75 = .ok (.getfield 73, 3) := by decide +kernel
theorem dA_put_78 : decode prog_1_method_4_code 78 = .ok (.iload_n 3, 1) := by decide +kernel
theorem dA_put_79 : decode prog_1_method_4_code 79 = .ok (.invokevirtual 107, 3) := by decide +kernel
theorem dA_put_82 : decode prog_1_method_4_code 82 = .ok (.iastore, 1) := by decide +kernel
theorem dA_put_83 : decode prog_1_method_4_code 83 = .ok (.aload_n 0, 1) := by decide +kernel
theorem dA_put_84 : decode prog_1_method_4_code 84 = .ok (.dup, 1) := by decide +kernel
theorem dA_put_85 : decode prog_1_method_4_code 85 = .ok (.getfield 29, 3) := by decide +kernel
theorem dA_put_88 : decode prog_1_method_4_code 88 = .ok (.iconst 1, 1) := by decide +kernel
theorem dA_put_89 : decode prog_1_method_4_code 89 = .ok (.iadd, 1) := by decide +kernel
theorem dA_put_90 : decode prog_1_method_4_code 90 = .ok (.putfield 29, 3) := by decide +kernel
theorem dA_put_93 : decode prog_1_method_4_code 93 = .ok (.iinc 3 1, 3) := by decide +kernel
theorem dA_put_96 : decode prog_1_method_4_code 96 = .ok (.goto (-41), 3) := by decide +kernel
theorem dA_put_99 : decode prog_1_method_4_code 99 = .ok (.aload_n 0, 1) := by decide +kernel
theorem dA_put_100 : decode prog_1_method_4_code 100 = .ok (.getfield 11, 3) := by decide +kernel
theorem dA_put_103 : decode prog_1_method_4_code 103 = .ok (.iload_n 1, 1) := by decide +kernel
theorem dA_put_104 : decode prog_1_method_4_code 104 = .ok (.aaload, 1) := by decide +kernel
theorem dA_put_105 : decode prog_1_method_4_code 105 = .ok (.iload_n 2, 1) := by decide +kernel
theorem dA_put_106 : decode prog_1_method_4_code 106 = .ok (.aload_n 0, 1) := by decide +kernel
theorem dA_put_107 : decode prog_1_method_4_code 107 = .ok (.getfield 36, 3) := by decide +kernel
theorem dA_put_110 : decode prog_1_method_4_code 110 = .ok (.invokevirtual 110, 3) := by decide +kernel
theorem dA_put_113 : decode prog_1_method_4_code 113 = .ok (.aload_n 0, 1) := by decide +kernel
theorem dA_put_114 : decode prog_1_method_4_code 114 = .ok (.getfield 73, 3) := by decide +kernel
theorem dA_put_117 : decode prog_1_method_4_code 117 = .ok (.getfield 104, 3) := by decide +kernel
theorem dA_put_120 : decode prog_1_method_4_code 120 = .ok (.ireturn, 1) := by decide +kernel
def LA_put_55 (a0 : Nat) (K12 : Hp → Option (Hp × Int32)) (rec22 : Hp → Int32 → Option (Hp × Int32)) (h20 : Hp) (x21 : Int32) : Option (Hp × Int32) :=
  gR h20 a0 4 10 (fun a23 =>
  gI h20 a23 0 1 (fun x24 =>
  if x24 ≤ x21 then
    (K12 h20)
  else
    (gR h20 a0 4 6 (fun a25 =>
    gI h20 a0 4 7 (fun x26 =>
    gR h20 a0 4 10 (fun a27 =>
    gd (isO h20 a27 0 = true) ((FC_bitAt h20 a27 x21).bind (fun r29 =>
    stI h20 a25 0 x26 r29 (fun h30 =>
    gI h30 a0 4 7 (fun x31 =>
    pF h30 a0 4 7 (.int (x31 + 1)) (fun h32 =>
    rec22 h32 (x21 + 1))))))))))))
def FA_put (h0 : Hp) (a0 : Nat) (p1 : Int32) (p2 : Int32) : Option (Hp × Int32) :=
  (FA_isTree h0 p1).bind (fun r1 =>
  if r1 = 0 then
    (some (h0, (-2)))
  else
    (gd (isO h0 a0 4 = true) ((FA_isSign h0 a0 p2).bind (fun r3 =>
    if r3 = 0 then
      (some (h0, (-3)))
    else
      (gR h0 a0 4 2 (fun a4 =>
      ldQ h0 a4 3 p1 (fun a5 =>
      gd (isO h0 a0 4 = true) ((FA_layCode h0 a0 a5 p2).bind (fun r7 =>
      gR r7 a0 4 10 (fun a8 =>
      gI r7 a8 0 1 (fun x9 =>
      gI r7 a0 4 7 (fun x10 =>
      if x9 ≤ (1000 - x10) then
        (jn (fun (h11 : Hp) =>
        gR h11 a0 4 2 (fun a13 =>
        ldQ h11 a13 3 p1 (fun a14 =>
        gI h11 a0 4 9 (fun x15 =>
        gd (isO h11 a14 3 = true) ((FT_stepBy h11 a14 p2 x15).bind (fun r17 =>
        gR r17 a0 4 10 (fun a18 =>
        gI r17 a18 0 1 (fun x19 =>
        some (r17, x19)))))))))
        (fun (K12 : Hp → Option (Hp × Int32)) =>
        lpG (fun _ _ => none) fu (LA_put_55 a0 K12) r7 0))
      else
        (some (r7, (-5)))))))))))))))
set_option maxRecDepth 100000 in
set_option maxHeartbeats 4000000 in
theorem mA_put (l : Launch) (h0 : Hp) (z0 : Nat) (a0 : Nat) (p1 : Int32) (p2 : Int32) (r : (Hp × Int32)) (hr : FA_put h0 a0 p1 p2 = some r) : vM False l yA_put (Cond.code yA_put prog_1_method_4_code 4 (some (.int)) :: gW) 5 [.ref a0, .int p1, .int p2] h0 z0 r.1 z0 (some (.int r.2)) 0 0 := by
  refine vM.of (by decide) rfl (Nat.le_of_ble_eq_true rfl) ?_
  intro p e s m args below meth c D dA C hin2
  refine (?_ : vO p l e (vR 5 0 0) s m args below meth c D dA (vA h0 z0) 4 False (fun r : (Hp × Int32) => MQ below (vQc False h0 z0 D dA r.1 z0 (some (.int r.2))) args s 0 0 (vAr False h0 z0)) 0 0 h0 z0 [(0, .ref a0), (1, .int p1), (2, .int p2)] 0 [] (FA_put h0 a0 p1 p2)) r hr
  obtain ⟨Q, hQ⟩ : ∃ Q : (Hp × Int32) → State → Prop, Q = (fun r : (Hp × Int32) => MQ below (vQc False h0 z0 D dA r.1 z0 (some (.int r.2))) args s 0 0 (vAr False h0 z0)) := ⟨_, rfl⟩
  rw [← hQ]
  unfold FA_put
  refine v_iload_n C dA_put_0 rfl 1 rfl ?_
  refine v_bind fun r1 hr1 => ?_
  refine v_callS0 (N := 1) (As := [.int p1]) (st := []) C (fun _ => trivial) (mA_isTree l h0 z0 p1 r1 hr1) rfl w_243 w_45 (by decide +kernel) ⟨Nat.le_of_ble_eq_true rfl, Nat.le_of_ble_eq_true rfl⟩ rfl rfl (Nat.le_of_ble_eq_true rfl) ⟨Nat.zero_le _, Nat.zero_le _⟩ w_241 w_242 dA_put_1 ?_
  refine v_if_ne (tgt := 10) C dA_put_4 (by decide) ?_ ?_
  · refine v_aload_n C dA_put_10 rfl 0 rfl ?_
    refine v_iload_n C dA_put_11 rfl 2 rfl ?_
    refine v_gd fun hO2 => ?_
    refine v_bind fun r3 hr3 => ?_
    refine v_callV0 (N := 1) (As := [.int p2]) (st := []) C (fun _ => trivial) (mA_isSign l h0 z0 a0 p2 r3 hr3) rfl w_272 w_45 (by decide +kernel) ⟨Nat.le_of_ble_eq_true rfl, Nat.le_of_ble_eq_true rfl⟩ rfl rfl (Nat.le_of_ble_eq_true rfl) ⟨Nat.zero_le _, Nat.zero_le _⟩ w_269 w_271 w_3 v_cl4 rfl hO2 dA_put_12 ?_
    refine v_if_ne (tgt := 21) C dA_put_15 (by decide) ?_ ?_
    · refine v_aload_n C dA_put_21 rfl 0 rfl ?_
      refine v_aload_n C dA_put_22 rfl 0 rfl ?_
      refine v_getR C v_cl4 (by decide) in_4 rfl w_202 dA_put_23 (fun a4 => ?_)
      refine v_iload_n C dA_put_26 rfl 1 rfl ?_
      refine v_aald C rfl dA_put_27 (fun a5 => ?_)
      refine v_iload_n C dA_put_28 rfl 2 rfl ?_
      refine v_gd fun hO6 => ?_
      refine v_bind fun r7 hr7 => ?_
      refine v_callV0 (N := 2) (As := [.ref a5, .int p2]) (st := []) C (fun f => f.elim) (mA_layCode l h0 z0 a0 a5 p2 r7 hr7) rfl w_276 w_45 (by decide +kernel) ⟨Nat.le_of_ble_eq_true rfl, Nat.le_of_ble_eq_true rfl⟩ rfl rfl (Nat.le_of_ble_eq_true rfl) ⟨Nat.zero_le _, Nat.zero_le _⟩ w_273 w_275 w_4 v_cl4 rfl hO6 dA_put_29 ?_
      refine v_aload_n C dA_put_32 rfl 0 rfl ?_
      refine v_getR C v_cl4 (by decide) in_4 rfl w_210 dA_put_33 (fun a8 => ?_)
      refine v_getIN C v_cl0 (by decide) in_0 rfl (nf_1 C.2.2.2.2.2.2.2.2.2) dA_put_36 (fun x9 => ?_)
      refine v_sipush (v := 1000) C dA_put_39 (by decide) ?_
      refine v_aload_n C dA_put_42 rfl 0 rfl ?_
      refine v_getI C v_cl4 (by decide) in_4 rfl w_207 dA_put_43 (fun x10 => ?_)
      refine v_isub C dA_put_46 ?_
      refine v_icmp_le (tgt := 53) C dA_put_47 (by decide) ?_ ?_
      · refine v_iconst (v := 0) C dA_put_53 (by decide) ?_
        refine v_istore_n (lv' := [(0, .ref a0), (1, .int p1), (2, .int p2), (3, .int 0)]) C dA_put_54 rfl (by decide) [1, 2, 3, 0] rfl ?_
        refine v_jn (fun (j : Hp → Option (Hp × Int32)) => ∀ (h11 : Hp), vO p l e (vR 5 0 0) s m args below meth c D dA (vA h0 z0) 4 False Q 0 0 h11 z0 [(0, .ref a0), (1, .int p1), (2, .int p2)] 99 [] (j h11)) ?_ (fun K12 HK12 => ?_)
        · intro h11
          refine v_aload_n C dA_put_99 rfl 0 rfl ?_
          refine v_getR C v_cl4 (by decide) in_4 rfl w_202 dA_put_100 (fun a13 => ?_)
          refine v_iload_n C dA_put_103 rfl 1 rfl ?_
          refine v_aald C rfl dA_put_104 (fun a14 => ?_)
          refine v_iload_n C dA_put_105 rfl 2 rfl ?_
          refine v_aload_n C dA_put_106 rfl 0 rfl ?_
          refine v_getI C v_cl4 (by decide) in_4 rfl w_209 dA_put_107 (fun x15 => ?_)
          refine v_gd fun hO16 => ?_
          refine v_bind fun r17 hr17 => ?_
          refine v_callV0 (N := 2) (As := [.int p2, .int x15]) (st := []) C (fun f => f.elim) (mT_stepBy l h11 z0 a14 p2 x15 r17 hr17) rfl w_305 w_50 (by decide +kernel) ⟨Nat.le_of_ble_eq_true rfl, Nat.le_of_ble_eq_true rfl⟩ rfl rfl (Nat.le_of_ble_eq_true rfl) ⟨Nat.zero_le _, Nat.zero_le _⟩ w_302 w_303 w_304 v_cl3 rfl hO16 dA_put_110 ?_
          refine v_aload_n C dA_put_113 rfl 0 rfl ?_
          refine v_getR C v_cl4 (by decide) in_4 rfl w_210 dA_put_114 (fun a18 => ?_)
          refine v_getIN C v_cl0 (by decide) in_0 rfl (nf_1 C.2.2.2.2.2.2.2.2.2) dA_put_117 (fun x19 => ?_)
          exact v_iret C dA_put_120 (by rw [hQ])
        · refine lpG_ind (bot := (fun _ _ => none)) (B := LA_put_55 a0 K12) (fun (r : Hp → Int32 → Option (Hp × Int32)) => ∀ (h20 : Hp), ∀ (x21 : Int32), vO p l e (vR 5 0 0) s m args below meth c D dA (vA h0 z0) 4 False Q 0 0 h20 z0 [(0, .ref a0), (1, .int p1), (2, .int p2), (3, .int x21)] 55 [] (r h20 x21)) ?_ ?_ fu r7 0
          · intro h20 x21
            exact v_none
          · intro rec22 Hrec22 h20 x21
            unfold LA_put_55
            refine v_iload_n C dA_put_55 rfl 3 rfl ?_
            refine v_aload_n C dA_put_56 rfl 0 rfl ?_
            refine v_getR C v_cl4 (by decide) in_4 rfl w_210 dA_put_57 (fun a23 => ?_)
            refine v_getIN C v_cl0 (by decide) in_0 rfl (nf_1 C.2.2.2.2.2.2.2.2.2) dA_put_60 (fun x24 => ?_)
            refine v_icmp_ge (tgt := 99) C dA_put_63 (by decide) ?_ ?_
            · refine v_lv (lv' := [(0, .ref a0), (1, .int p1), (2, .int p2)]) [0, 1, 2] rfl ?_
              exact HK12 h20
            · refine v_aload_n C dA_put_66 rfl 0 rfl ?_
              refine v_getR C v_cl4 (by decide) in_4 rfl w_206 dA_put_67 (fun a25 => ?_)
              refine v_aload_n C dA_put_70 rfl 0 rfl ?_
              refine v_getI C v_cl4 (by decide) in_4 rfl w_207 dA_put_71 (fun x26 => ?_)
              refine v_aload_n C dA_put_74 rfl 0 rfl ?_
              refine v_getR C v_cl4 (by decide) in_4 rfl w_210 dA_put_75 (fun a27 => ?_)
              refine v_iload_n C dA_put_78 rfl 3 rfl ?_
              refine v_gd fun hO28 => ?_
              refine v_bind fun r29 hr29 => ?_
              refine v_callV0 (N := 1) (As := [.int x21]) (st := [.int x26, .ref a25]) C (fun _ => trivial) (mC_bitAt l h20 z0 a27 x21 r29 hr29) rfl w_301 w_48 (by decide +kernel) ⟨Nat.le_of_ble_eq_true rfl, Nat.le_of_ble_eq_true rfl⟩ rfl rfl (Nat.le_of_ble_eq_true rfl) ⟨Nat.zero_le _, Nat.zero_le _⟩ w_298 w_299 w_300 v_cl0 rfl hO28 dA_put_79 ?_
              refine v_iast C rfl dA_put_82 (fun h30 => ?_)
              refine v_aload_n C dA_put_83 rfl 0 rfl ?_
              refine v_dup C dA_put_84 rfl ?_
              refine v_getI C v_cl4 (by decide) in_4 rfl w_207 dA_put_85 (fun x31 => ?_)
              refine v_iconst (v := 1) C dA_put_88 (by decide) ?_
              refine v_iadd C dA_put_89 ?_
              refine v_put C v_cl4 (by decide) in_4 ty_4 ty_4_ok nm_4 rfl w_207 rfl (ty := .int) (by decide +kernel) rfl rfl dA_put_90 (fun h32 => ?_)
              refine v_iinc (v := (x21 + 1)) (lv' := [(0, .ref a0), (1, .int p1), (2, .int p2), (3, .int (x21 + 1))]) C dA_put_93 3 rfl rfl (by decide) [1, 2, 3, 0] rfl ?_
              refine v_goto (tgt := 55) C dA_put_96 (by decide) ?_
              exact Hrec22 h32 (x21 + 1)
      · refine v_bipush (v := (-5)) C dA_put_50 (by decide) ?_
        exact v_iret C dA_put_52 (by rw [hQ])
    · refine v_bipush (v := (-3)) C dA_put_18 (by decide) ?_
      exact v_iret C dA_put_20 (by rw [hQ])
  · refine v_bipush (v := (-2)) C dA_put_7 (by decide) ?_
    exact v_iret C dA_put_9 (by rw [hQ])
theorem dA_bits_0 : decode prog_1_method_5_code 0 = .ok (.aload_n 0, 1) := by decide +kernel
theorem dA_bits_1 : decode prog_1_method_5_code 1 = .ok (.getfield 29, 3) := by decide +kernel
theorem dA_bits_4 : decode prog_1_method_5_code 4 = .ok (.ireturn, 1) := by decide +kernel
def FA_bits (h0 : Hp) (a0 : Nat) : Option Int32 :=
  gI h0 a0 4 7 (fun x1 =>
  some x1)
set_option maxRecDepth 100000 in
set_option maxHeartbeats 4000000 in
theorem mA_bits (l : Launch) (h0 : Hp) (z0 : Nat) (a0 : Nat) (r : Int32) (hr : FA_bits h0 a0 = some r) : vM True l yA_bits (Cond.code yA_bits prog_1_method_5_code 1 (some (.int)) :: gW) 0 [.ref a0] h0 z0 h0 z0 (some (.int r)) 0 0 := by
  refine vM.of (by decide) rfl (Nat.le_of_ble_eq_true rfl) ?_
  intro p e s m args below meth c D dA C hin2
  refine (?_ : vO p l e (vR 0 0 0) s m args below meth c D dA (vA h0 z0) 1 True (fun r : Int32 => MQ below (vQc True h0 z0 D dA h0 z0 (some (.int r))) args s 0 0 (vAr True h0 z0)) 0 0 h0 z0 [(0, .ref a0)] 0 [] (FA_bits h0 a0)) r hr
  obtain ⟨Q, hQ⟩ : ∃ Q : Int32 → State → Prop, Q = (fun r : Int32 => MQ below (vQc True h0 z0 D dA h0 z0 (some (.int r))) args s 0 0 (vAr True h0 z0)) := ⟨_, rfl⟩
  rw [← hQ]
  unfold FA_bits
  refine v_aload_n C dA_bits_0 rfl 0 rfl ?_
  refine v_getI C v_cl4 (by decide) in_4 rfl w_207 dA_bits_1 (fun x1 => ?_)
  exact v_iret C dA_bits_4 (by rw [hQ])
theorem dA_bit_0 : decode prog_1_method_6_code 0 = .ok (.iload_n 1, 1) := by decide +kernel
theorem dA_bit_1 : decode prog_1_method_6_code 1 = .ok (.ifCond .lt 20, 3) := by decide +kernel
theorem dA_bit_4 : decode prog_1_method_6_code 4 = .ok (.iload_n 1, 1) := by decide +kernel
theorem dA_bit_5 : decode prog_1_method_6_code 5 = .ok (.aload_n 0, 1) := by decide +kernel
theorem dA_bit_6 : decode prog_1_method_6_code 6 = .ok (.getfield 29, 3) := by decide +kernel
theorem dA_bit_9 : decode prog_1_method_6_code 9 = .ok (.if_icmp .ge 12, 3) := by decide +kernel
theorem dA_bit_12 : decode prog_1_method_6_code 12 = .ok (.aload_n 0, 1) := by decide +kernel
theorem dA_bit_13 : decode prog_1_method_6_code 13 = .ok (.getfield 25, 3) := by decide +kernel
theorem dA_bit_16 : decode prog_1_method_6_code 16 = .ok (.iload_n 1, 1) := by decide +kernel
theorem dA_bit_17 : decode prog_1_method_6_code 17 = .ok (.iaload, 1) := by decide +kernel
theorem dA_bit_18 : decode prog_1_method_6_code 18 = .ok (.goto 4, 3) := by decide +kernel
theorem dA_bit_21 : decode prog_1_method_6_code 21 = .ok (.iconst (-1), 1) := by decide +kernel
theorem dA_bit_22 : decode prog_1_method_6_code 22 = .ok (.ireturn, 1) := by decide +kernel
def FA_bit (h0 : Hp) (a0 : Nat) (p1 : Int32) : Option Int32 :=
  jn (fun (y1 : Int32) =>
  some y1)
  (fun (j2 : Int32 → Option Int32) =>
  jn (j2 (-1))
  (fun (j3 : Option Int32) =>
  if p1 < 0 then
    (j3)
  else
    (gI h0 a0 4 7 (fun x4 =>
    if x4 ≤ p1 then
      (j3)
    else
      (gR h0 a0 4 6 (fun a5 =>
      ldI h0 a5 0 p1 (fun x6 =>
      j2 x6)))))))
set_option maxRecDepth 100000 in
set_option maxHeartbeats 4000000 in
theorem mA_bit (l : Launch) (h0 : Hp) (z0 : Nat) (a0 : Nat) (p1 : Int32) (r : Int32) (hr : FA_bit h0 a0 p1 = some r) : vM True l yA_bit (Cond.code yA_bit prog_1_method_6_code 2 (some (.int)) :: gW) 0 [.ref a0, .int p1] h0 z0 h0 z0 (some (.int r)) 0 0 := by
  refine vM.of (by decide) rfl (Nat.le_of_ble_eq_true rfl) ?_
  intro p e s m args below meth c D dA C hin2
  refine (?_ : vO p l e (vR 0 0 0) s m args below meth c D dA (vA h0 z0) 2 True (fun r : Int32 => MQ below (vQc True h0 z0 D dA h0 z0 (some (.int r))) args s 0 0 (vAr True h0 z0)) 0 0 h0 z0 [(0, .ref a0), (1, .int p1)] 0 [] (FA_bit h0 a0 p1)) r hr
  obtain ⟨Q, hQ⟩ : ∃ Q : Int32 → State → Prop, Q = (fun r : Int32 => MQ below (vQc True h0 z0 D dA h0 z0 (some (.int r))) args s 0 0 (vAr True h0 z0)) := ⟨_, rfl⟩
  rw [← hQ]
  unfold FA_bit
  refine v_iload_n C dA_bit_0 rfl 1 rfl ?_
  refine v_jn (fun (j : Int32 → Option Int32) => ∀ (y1 : Int32), vO p l e (vR 0 0 0) s m args below meth c D dA (vA h0 z0) 2 True Q 0 0 h0 z0 [] 22 [.int y1] (j y1)) ?_ (fun j2 Hj2 => ?_)
  · intro y1
    exact v_iret C dA_bit_22 (by rw [hQ])
  · refine v_jn (fun (j : Option Int32) => vO p l e (vR 0 0 0) s m args below meth c D dA (vA h0 z0) 2 True Q 0 0 h0 z0 [] 21 [] j) ?_ (fun j3 Hj3 => ?_)
    · refine v_iconst (v := (-1)) C dA_bit_21 (by decide) ?_
      exact Hj2 (-1)
    · refine v_if_lt (tgt := 21) C dA_bit_1 (by decide) ?_ ?_
      · refine v_lv (lv' := []) [] rfl ?_
        exact Hj3
      · refine v_iload_n C dA_bit_4 rfl 1 rfl ?_
        refine v_aload_n C dA_bit_5 rfl 0 rfl ?_
        refine v_getI C v_cl4 (by decide) in_4 rfl w_207 dA_bit_6 (fun x4 => ?_)
        refine v_icmp_ge (tgt := 21) C dA_bit_9 (by decide) ?_ ?_
        · refine v_lv (lv' := []) [] rfl ?_
          exact Hj3
        · refine v_aload_n C dA_bit_12 rfl 0 rfl ?_
          refine v_getR C v_cl4 (by decide) in_4 rfl w_206 dA_bit_13 (fun a5 => ?_)
          refine v_iload_n C dA_bit_16 rfl 1 rfl ?_
          refine v_iald C rfl dA_bit_17 (fun x6 => ?_)
          refine v_goto (tgt := 22) C dA_bit_18 (by decide) ?_
          refine v_lv (lv' := []) [] rfl ?_
          exact Hj2 x6
