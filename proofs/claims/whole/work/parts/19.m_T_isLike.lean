theorem dT_isLike_0 : decode prog_5_method_30_code 0 = .ok (.aload_n 0, 1) := by decide +kernel
theorem dT_isLike_1 : decode prog_5_method_30_code 1 = .ok (.getfield 9, 3) := by decide +kernel
theorem dT_isLike_4 : decode prog_5_method_30_code 4 = .ok (.aload_n 1, 1) := by decide +kernel
theorem dT_isLike_5 : decode prog_5_method_30_code 5 = .ok (.getfield 9, 3) := by decide +kernel
theorem dT_isLike_8 : decode prog_5_method_30_code 8 = .ok (.if_icmp .ne 14, 3) := by decide +kernel
theorem dT_isLike_11 : decode prog_5_method_30_code 11 = .ok (.aload_n 0, 1) := by decide +kernel
theorem dT_isLike_12 : decode prog_5_method_30_code 12 = .ok (.getfield 15, 3) := by decide +kernel
theorem dT_isLike_15 : decode prog_5_method_30_code 15 = .ok (.aload_n 1, 1) := by decide +kernel
theorem dT_isLike_16 : decode prog_5_method_30_code 16 = .ok (.getfield 15, 3) := by decide +kernel
theorem dT_isLike_19 : decode prog_5_method_30_code 19 = .ok (.if_icmp .eq 5, 3) := by decide +kernel
theorem dT_isLike_22 : decode prog_5_method_30_code 22 = .ok (.iconst 0, 1) := by decide +kernel
theorem dT_isLike_23 : decode prog_5_method_30_code 23 = .ok (.ireturn, 1) := by decide +kernel
theorem dT_isLike_24 : decode prog_5_method_30_code 24 = .ok (.iconst 0, 1) := by decide +kernel
theorem dT_isLike_25 : decode prog_5_method_30_code 25 = .ok (.istore_n 2, 1) := by decide +kernel
theorem dT_isLike_26 : decode prog_5_method_30_code 26 = .ok (.iload_n 2, 1) := by decide +kernel
theorem dT_isLike_27 : decode prog_5_method_30_code 27 = .ok (.aload_n 0, 1) := by decide +kernel
theorem dT_isLike_28 : decode prog_5_method_30_code 28 = .ok (.getfield 15, 3) := by decide +kernel
theorem dT_isLike_31 : decode prog_5_method_30_code 31 = .ok (.if_icmp .ge 67, 3) := by decide +kernel
theorem dT_isLike_34 : decode prog_5_method_30_code 34 = .ok (.aload_n 0, 1) := by decide +kernel
theorem dT_isLike_35 : decode prog_5_method_30_code 35 = .ok (.iload_n 2, 1) := by decide +kernel
theorem dT_isLike_36 : decode prog_5_method_30_code 36 = .ok (.invokevirtual 99, 3) := by decide +kernel
theorem dT_isLike_39 : decode prog_5_method_30_code 39 = .ok (.aload_n 1, 1) := by decide +kernel
theorem dT_isLike_40 : decode prog_5_method_30_code 40 = .ok (.iload_n 2, 1) := by decide +kernel
theorem dT_isLike_41 : decode prog_5_method_30_code 41 = .ok (.invokevirtual 99, 3) := by decide +kernel
theorem dT_isLike_44 : decode prog_5_method_30_code 44 = .ok (.if_icmp .ne 46, 3) := by decide +kernel
theorem dT_isLike_47 : decode prog_5_method_30_code 47 = .ok (.aload_n 0, 1) := by decide +kernel
theorem dT_isLike_48 : decode prog_5_method_30_code 48 = .ok (.iload_n 2, 1) := by decide +kernel
theorem dT_isLike_49 : decode prog_5_method_30_code 49 = .ok (.invokevirtual 124, 3) := by decide +kernel
theorem dT_isLike_52 : decode prog_5_method_30_code 52 = .ok (.aload_n 1, 1) := by decide +kernel
theorem dT_isLike_53 : decode prog_5_method_30_code 53 = .ok (.iload_n 2, 1) := by decide +kernel
theorem dT_isLike_54 : decode prog_5_method_30_code 54 = .ok (.invokevirtual 124, 3) := by decide +kernel
theorem dT_isLike_57 : decode prog_5_method_30_code 57 = .ok (.if_icmp .ne 33, 3) := by decide +kernel
theorem dT_isLike_60 : decode prog_5_method_30_code 60 = .ok (.aload_n 0, 1) := by decide +kernel
theorem dT_isLike_61 : decode prog_5_method_30_code 61 = .ok (.iload_n 2, 1) := by decide +kernel
theorem dT_isLike_62 : decode prog_5_method_30_code 62 = .ok (.iconst 0, 1) := by decide +kernel
theorem dT_isLike_63 : decode prog_5_method_30_code 63 = .ok (.invokevirtual 74, 3) := by decide +kernel
theorem dT_isLike_66 : decode prog_5_method_30_code 66 = .ok (.aload_n 1, 1) := by decide +kernel
theorem dT_isLike_67 : decode prog_5_method_30_code 67 = .ok (.iload_n 2, 1) := by decide +kernel
theorem dT_isLike_68 : decode prog_5_method_30_code 68 = .ok (.iconst 0, 1) := by decide +kernel
theorem dT_isLike_69 : decode prog_5_method_30_code 69 = .ok (.invokevirtual 74, 3) := by decide +kernel
theorem dT_isLike_72 : decode prog_5_method_30_code 72 = .ok (.if_icmp .ne 18, 3) := by decide +kernel
theorem dT_isLike_75 : decode prog_5_method_30_code 75 = .ok (.aload_n 0, 1) := by decide +kernel
theorem dT_isLike_76 : decode prog_5_method_30_code 76 = .ok (.iload_n 2, 1) := by decide +kernel
theorem dT_isLike_77 : decode prog_5_method_30_code 77 = .ok (.iconst 1, 1) := by decide +kernel
theorem dT_isLike_78 : decode prog_5_method_30_code 78 = .ok (.invokevirtual 74, 3) := by decide +kernel
theorem dT_isLike_81 : decode prog_5_method_30_code 81 = .ok (.aload_n 1, 1) := by decide +kernel
theorem dT_isLike_82 : decode prog_5_method_30_code 82 = .ok (.iload_n 2, 1) := by decide +kernel
theorem dT_isLike_83 : decode prog_5_method_30_code 83 = .ok (.iconst 1, 1) := by decide +kernel
theorem dT_isLike_84 : decode prog_5_method_30_code 84 = .ok (.invokevirtual 74, 3) := by decide +kernel
theorem dT_isLike_87 : decode prog_5_method_30_code 87 = .ok (.if_icmp .eq 5, 3) := by decide +kernel
theorem dT_isLike_90 : decode prog_5_method_30_code 90 = .ok (.iconst 0, 1) := by decide +kernel
theorem dT_isLike_91 : decode prog_5_method_30_code 91 = .ok (.ireturn, 1) := by decide +kernel
theorem dT_isLike_92 : decode prog_5_method_30_code 92 = .ok (.iinc 2 1, 3) := by decide +kernel
theorem dT_isLike_95 : decode prog_5_method_30_code 95 = .ok (.goto (-69), 3) := by decide +kernel
theorem dT_isLike_98 : decode prog_5_method_30_code 98 = .ok (.iconst 1, 1) := by decide +kernel
theorem dT_isLike_99 : decode prog_5_method_30_code 99 = .ok (.ireturn, 1) := by decide +kernel
def LT_isLike_26 (h0 : Hp) (a0 : Nat) (u1 : Nat) (K6 : Option Int32) (K7 : Option Int32) (rec9 : Int32 → Option Int32) (x8 : Int32) : Option Int32 :=
  gI h0 a0 3 9 (fun x10 =>
  if x10 ≤ x8 then
    (K6)
  else
    (gd (isO h0 a0 3 = true) ((FT_countAt h0 a0 x8).bind (fun r12 =>
    gd (isO h0 u1 3 = true) ((FT_countAt h0 u1 x8).bind (fun r14 =>
    if r12 = r14 then
      (gd (isO h0 a0 3 = true) ((FT_signAt h0 a0 x8).bind (fun r16 =>
      gd (isO h0 u1 3 = true) ((FT_signAt h0 u1 x8).bind (fun r18 =>
      if r16 = r18 then
        (gd (isO h0 a0 3 = true) ((FT_childOf h0 a0 x8 0).bind (fun r20 =>
        gd (isO h0 u1 3 = true) ((FT_childOf h0 u1 x8 0).bind (fun r22 =>
        if r20 = r22 then
          (gd (isO h0 a0 3 = true) ((FT_childOf h0 a0 x8 1).bind (fun r24 =>
          gd (isO h0 u1 3 = true) ((FT_childOf h0 u1 x8 1).bind (fun r26 =>
          if r24 = r26 then
            (rec9 (x8 + 1))
          else
            (K7))))))
        else
          (K7))))))
      else
        (K7))))))
    else
      (K7)))))))
def FT_isLike (h0 : Hp) (a0 : Nat) (u1 : Nat) : Option Int32 :=
  gI h0 a0 3 8 (fun x1 =>
  gI h0 u1 3 8 (fun x2 =>
  jn (gd (0 = 0 ∨ 0 = 1) (some 0))
  (fun (j3 : Option Int32) =>
  if x1 = x2 then
    (gI h0 a0 3 9 (fun x4 =>
    gI h0 u1 3 9 (fun x5 =>
    if x4 = x5 then
      (jn (gd (1 = 0 ∨ 1 = 1) (some 1))
      (fun (K6 : Option Int32) =>
      jn (gd (0 = 0 ∨ 0 = 1) (some 0))
      (fun (K7 : Option Int32) =>
      lpG (fun _ => none) fu (LT_isLike_26 h0 a0 u1 K6 K7) 0)))
    else
      (j3))))
  else
    (j3))))
set_option maxRecDepth 100000 in
set_option maxHeartbeats 4000000 in
theorem mT_isLike (l : Launch) (h0 : Hp) (z0 : Nat) (a0 : Nat) (u1 : Nat) (r : Int32) (hr : FT_isLike h0 a0 u1 = some r) : vM True l yT_isLike (Cond.code yT_isLike prog_5_method_30_code 3 (some (.boolean)) :: gW) 2 [.ref a0, .ref u1] h0 z0 h0 z0 (some (.int r)) 0 0 := by
  refine vM.of (by decide) rfl (Nat.le_of_ble_eq_true rfl) ?_
  intro p e s m args below meth c D dA C hin2
  refine (?_ : vO p l e (vR 2 0 0) s m args below meth c D dA (vA h0 z0) 3 True (fun r : Int32 => MQ below (vQc True h0 z0 D dA h0 z0 (some (.int r))) args s 0 0 (vAr True h0 z0)) 0 0 h0 z0 [(0, .ref a0), (1, .ref u1)] 0 [] (FT_isLike h0 a0 u1)) r hr
  obtain ⟨Q, hQ⟩ : ∃ Q : Int32 → State → Prop, Q = (fun r : Int32 => MQ below (vQc True h0 z0 D dA h0 z0 (some (.int r))) args s 0 0 (vAr True h0 z0)) := ⟨_, rfl⟩
  rw [← hQ]
  unfold FT_isLike
  refine v_aload_n C dT_isLike_0 rfl 0 rfl ?_
  refine v_getI C v_cl3 (by decide) in_3 rfl w_168 dT_isLike_1 (fun x1 => ?_)
  refine v_aload_n C dT_isLike_4 rfl 1 rfl ?_
  refine v_getI C v_cl3 (by decide) in_3 rfl w_168 dT_isLike_5 (fun x2 => ?_)
  refine v_jn (fun (j : Option Int32) => vO p l e (vR 2 0 0) s m args below meth c D dA (vA h0 z0) 3 True Q 0 0 h0 z0 [] 22 [] j) ?_ (fun j3 Hj3 => ?_)
  · refine v_iconst (v := 0) C dT_isLike_22 (by decide) ?_
    exact v_zret C dT_isLike_23 (by rw [hQ])
  · refine v_icmp_ne (tgt := 22) C dT_isLike_8 (by decide) ?_ ?_
    · refine v_lv (lv' := []) [] rfl ?_
      exact Hj3
    · refine v_aload_n C dT_isLike_11 rfl 0 rfl ?_
      refine v_getI C v_cl3 (by decide) in_3 rfl w_170 dT_isLike_12 (fun x4 => ?_)
      refine v_aload_n C dT_isLike_15 rfl 1 rfl ?_
      refine v_getI C v_cl3 (by decide) in_3 rfl w_170 dT_isLike_16 (fun x5 => ?_)
      refine v_icmp_eq (tgt := 24) C dT_isLike_19 (by decide) ?_ ?_
      · refine v_iconst (v := 0) C dT_isLike_24 (by decide) ?_
        refine v_istore_n (lv' := [(0, .ref a0), (1, .ref u1), (2, .int 0)]) C dT_isLike_25 rfl (by decide) [1, 2, 0] rfl ?_
        refine v_jn (fun (j : Option Int32) => vO p l e (vR 2 0 0) s m args below meth c D dA (vA h0 z0) 3 True Q 0 0 h0 z0 [] 98 [] j) ?_ (fun K6 HK6 => ?_)
        · refine v_iconst (v := 1) C dT_isLike_98 (by decide) ?_
          exact v_zret C dT_isLike_99 (by rw [hQ])
        · refine v_jn (fun (j : Option Int32) => vO p l e (vR 2 0 0) s m args below meth c D dA (vA h0 z0) 3 True Q 0 0 h0 z0 [] 90 [] j) ?_ (fun K7 HK7 => ?_)
          · refine v_iconst (v := 0) C dT_isLike_90 (by decide) ?_
            exact v_zret C dT_isLike_91 (by rw [hQ])
          · refine lpG_ind (bot := (fun _ => none)) (B := LT_isLike_26 h0 a0 u1 K6 K7) (fun (r : Int32 → Option Int32) => ∀ (x8 : Int32), vO p l e (vR 2 0 0) s m args below meth c D dA (vA h0 z0) 3 True Q 0 0 h0 z0 [(0, .ref a0), (1, .ref u1), (2, .int x8)] 26 [] (r x8)) ?_ ?_ fu 0
            · intro x8
              exact v_none
            · intro rec9 Hrec9 x8
              unfold LT_isLike_26
              refine v_iload_n C dT_isLike_26 rfl 2 rfl ?_
              refine v_aload_n C dT_isLike_27 rfl 0 rfl ?_
              refine v_getI C v_cl3 (by decide) in_3 rfl w_170 dT_isLike_28 (fun x10 => ?_)
              refine v_icmp_ge (tgt := 98) C dT_isLike_31 (by decide) ?_ ?_
              · refine v_lv (lv' := []) [] rfl ?_
                exact HK6
              · refine v_aload_n C dT_isLike_34 rfl 0 rfl ?_
                refine v_iload_n C dT_isLike_35 rfl 2 rfl ?_
                refine v_gd fun hO11 => ?_
                refine v_bind fun r12 hr12 => ?_
                refine v_callV0 (N := 1) (As := [.int x8]) (st := []) C (fun _ => trivial) (mT_countAt l h0 z0 a0 x8 r12 hr12) rfl w_344 w_52 (by decide +kernel) ⟨Nat.le_of_ble_eq_true rfl, Nat.le_of_ble_eq_true rfl⟩ rfl rfl (Nat.le_of_ble_eq_true rfl) ⟨Nat.zero_le _, Nat.zero_le _⟩ w_341 w_342 w_343 v_cl3 rfl hO11 dT_isLike_36 ?_
                refine v_aload_n C dT_isLike_39 rfl 1 rfl ?_
                refine v_iload_n C dT_isLike_40 rfl 2 rfl ?_
                refine v_gd fun hO13 => ?_
                refine v_bind fun r14 hr14 => ?_
                refine v_callV0 (N := 1) (As := [.int x8]) (st := [.int r12]) C (fun _ => trivial) (mT_countAt l h0 z0 u1 x8 r14 hr14) rfl w_344 w_52 (by decide +kernel) ⟨Nat.le_of_ble_eq_true rfl, Nat.le_of_ble_eq_true rfl⟩ rfl rfl (Nat.le_of_ble_eq_true rfl) ⟨Nat.zero_le _, Nat.zero_le _⟩ w_341 w_342 w_343 v_cl3 rfl hO13 dT_isLike_41 ?_
                refine v_icmp_ne (tgt := 90) C dT_isLike_44 (by decide) ?_ ?_
                · refine v_lv (lv' := []) [] rfl ?_
                  exact HK7
                · refine v_aload_n C dT_isLike_47 rfl 0 rfl ?_
                  refine v_iload_n C dT_isLike_48 rfl 2 rfl ?_
                  refine v_gd fun hO15 => ?_
                  refine v_bind fun r16 hr16 => ?_
                  refine v_callV0 (N := 1) (As := [.int x8]) (st := []) C (fun _ => trivial) (mT_signAt l h0 z0 a0 x8 r16 hr16) rfl w_360 w_52 (by decide +kernel) ⟨Nat.le_of_ble_eq_true rfl, Nat.le_of_ble_eq_true rfl⟩ rfl rfl (Nat.le_of_ble_eq_true rfl) ⟨Nat.zero_le _, Nat.zero_le _⟩ w_357 w_358 w_359 v_cl3 rfl hO15 dT_isLike_49 ?_
                  refine v_aload_n C dT_isLike_52 rfl 1 rfl ?_
                  refine v_iload_n C dT_isLike_53 rfl 2 rfl ?_
                  refine v_gd fun hO17 => ?_
                  refine v_bind fun r18 hr18 => ?_
                  refine v_callV0 (N := 1) (As := [.int x8]) (st := [.int r16]) C (fun _ => trivial) (mT_signAt l h0 z0 u1 x8 r18 hr18) rfl w_360 w_52 (by decide +kernel) ⟨Nat.le_of_ble_eq_true rfl, Nat.le_of_ble_eq_true rfl⟩ rfl rfl (Nat.le_of_ble_eq_true rfl) ⟨Nat.zero_le _, Nat.zero_le _⟩ w_357 w_358 w_359 v_cl3 rfl hO17 dT_isLike_54 ?_
                  refine v_icmp_ne (tgt := 90) C dT_isLike_57 (by decide) ?_ ?_
                  · refine v_lv (lv' := []) [] rfl ?_
                    exact HK7
                  · refine v_aload_n C dT_isLike_60 rfl 0 rfl ?_
                    refine v_iload_n C dT_isLike_61 rfl 2 rfl ?_
                    refine v_iconst (v := 0) C dT_isLike_62 (by decide) ?_
                    refine v_gd fun hO19 => ?_
                    refine v_bind fun r20 hr20 => ?_
                    refine v_callV0 (N := 2) (As := [.int x8, .int 0]) (st := []) C (fun _ => trivial) (mT_childOf l h0 z0 a0 x8 0 r20 hr20) rfl w_298 w_52 (by decide +kernel) ⟨Nat.le_of_ble_eq_true rfl, Nat.le_of_ble_eq_true rfl⟩ rfl rfl (Nat.le_of_ble_eq_true rfl) ⟨Nat.zero_le _, Nat.zero_le _⟩ w_295 w_296 w_297 v_cl3 rfl hO19 dT_isLike_63 ?_
                    refine v_aload_n C dT_isLike_66 rfl 1 rfl ?_
                    refine v_iload_n C dT_isLike_67 rfl 2 rfl ?_
                    refine v_iconst (v := 0) C dT_isLike_68 (by decide) ?_
                    refine v_gd fun hO21 => ?_
                    refine v_bind fun r22 hr22 => ?_
                    refine v_callV0 (N := 2) (As := [.int x8, .int 0]) (st := [.int r20]) C (fun _ => trivial) (mT_childOf l h0 z0 u1 x8 0 r22 hr22) rfl w_298 w_52 (by decide +kernel) ⟨Nat.le_of_ble_eq_true rfl, Nat.le_of_ble_eq_true rfl⟩ rfl rfl (Nat.le_of_ble_eq_true rfl) ⟨Nat.zero_le _, Nat.zero_le _⟩ w_295 w_296 w_297 v_cl3 rfl hO21 dT_isLike_69 ?_
                    refine v_icmp_ne (tgt := 90) C dT_isLike_72 (by decide) ?_ ?_
                    · refine v_lv (lv' := []) [] rfl ?_
                      exact HK7
                    · refine v_aload_n C dT_isLike_75 rfl 0 rfl ?_
                      refine v_iload_n C dT_isLike_76 rfl 2 rfl ?_
                      refine v_iconst (v := 1) C dT_isLike_77 (by decide) ?_
                      refine v_gd fun hO23 => ?_
                      refine v_bind fun r24 hr24 => ?_
                      refine v_callV0 (N := 2) (As := [.int x8, .int 1]) (st := []) C (fun _ => trivial) (mT_childOf l h0 z0 a0 x8 1 r24 hr24) rfl w_298 w_52 (by decide +kernel) ⟨Nat.le_of_ble_eq_true rfl, Nat.le_of_ble_eq_true rfl⟩ rfl rfl (Nat.le_of_ble_eq_true rfl) ⟨Nat.zero_le _, Nat.zero_le _⟩ w_295 w_296 w_297 v_cl3 rfl hO23 dT_isLike_78 ?_
                      refine v_aload_n C dT_isLike_81 rfl 1 rfl ?_
                      refine v_iload_n C dT_isLike_82 rfl 2 rfl ?_
                      refine v_iconst (v := 1) C dT_isLike_83 (by decide) ?_
                      refine v_gd fun hO25 => ?_
                      refine v_bind fun r26 hr26 => ?_
                      refine v_callV0 (N := 2) (As := [.int x8, .int 1]) (st := [.int r24]) C (fun _ => trivial) (mT_childOf l h0 z0 u1 x8 1 r26 hr26) rfl w_298 w_52 (by decide +kernel) ⟨Nat.le_of_ble_eq_true rfl, Nat.le_of_ble_eq_true rfl⟩ rfl rfl (Nat.le_of_ble_eq_true rfl) ⟨Nat.zero_le _, Nat.zero_le _⟩ w_295 w_296 w_297 v_cl3 rfl hO25 dT_isLike_84 ?_
                      refine v_icmp_eq (tgt := 92) C dT_isLike_87 (by decide) ?_ ?_
                      · refine v_iinc (v := (x8 + 1)) (lv' := [(0, .ref a0), (1, .ref u1), (2, .int (x8 + 1))]) C dT_isLike_92 2 rfl rfl (by decide) [1, 2, 0] rfl ?_
                        refine v_goto (tgt := 26) C dT_isLike_95 (by decide) ?_
                        exact Hrec9 (x8 + 1)
                      · refine v_lv (lv' := []) [] rfl ?_
                        exact HK7
      · refine v_lv (lv' := []) [] rfl ?_
        exact Hj3
theorem dA_same_0 : decode prog_1_method_19_code 0 = .ok (.iload_n 1, 1) := by decide +kernel
theorem dA_same_1 : decode prog_1_method_19_code 1 = .ok (.invokestatic 83, 3) := by decide +kernel
theorem dA_same_4 : decode prog_1_method_19_code 4 = .ok (.ifCond .eq 24, 3) := by decide +kernel
theorem dA_same_7 : decode prog_1_method_19_code 7 = .ok (.aload_n 0, 1) := by decide +kernel
theorem dA_same_8 : decode prog_1_method_19_code 8 = .ok (.getfield 11, 3) := by decide +kernel
theorem dA_same_11 : decode prog_1_method_19_code 11 = .ok (.iload_n 1, 1) := by decide +kernel
theorem dA_same_12 : decode prog_1_method_19_code 12 = .ok (.aaload, 1) := by decide +kernel
theorem dA_same_13 : decode prog_1_method_19_code 13 = .ok (.aload_n 0, 1) := by decide +kernel
theorem dA_same_14 : decode prog_1_method_19_code 14 = .ok (.getfield 15, 3) := by decide +kernel
theorem dA_same_17 : decode prog_1_method_19_code 17 = .ok (.iload_n 1, 1) := by decide +kernel
theorem dA_same_18 : decode prog_1_method_19_code 18 = .ok (.aaload, 1) := by decide +kernel
theorem dA_same_19 : decode prog_1_method_19_code 19 = .ok (.invokevirtual 179, 3) := by decide +kernel
theorem dA_same_22 : decode prog_1_method_19_code 22 = .ok (.invokestatic 133, 3) := by decide +kernel
theorem dA_same_25 : decode prog_1_method_19_code 25 = .ok (.goto 5, 3) := by decide +kernel
theorem dA_same_28 : decode prog_1_method_19_code 28 = .ok (.bipush (-2), 2) := by decide +kernel
theorem dA_same_30 : decode prog_1_method_19_code 30 = .ok (.ireturn, 1) := by decide +kernel
def FA_same (h0 : Hp) (a0 : Nat) (p1 : Int32) : Option Int32 :=
  (FA_isTree h0 p1).bind (fun r1 =>
  jn (fun (y2 : Int32) =>
  some y2)
  (fun (j3 : Int32 → Option Int32) =>
  if r1 = 0 then
    (j3 (-2))
  else
    (gR h0 a0 4 2 (fun a4 =>
    ldQ h0 a4 3 p1 (fun a5 =>
    gR h0 a0 4 3 (fun a6 =>
    ldQ h0 a6 3 p1 (fun a7 =>
    gd (isO h0 a5 3 = true) ((FT_isLike h0 a5 a7).bind (fun r9 =>
    (FA_oneIf h0 r9).bind (fun r10 =>
    j3 r10))))))))))
set_option maxRecDepth 100000 in
set_option maxHeartbeats 4000000 in
theorem mA_same (l : Launch) (h0 : Hp) (z0 : Nat) (a0 : Nat) (p1 : Int32) (r : Int32) (hr : FA_same h0 a0 p1 = some r) : vM True l yA_same (Cond.code yA_same prog_1_method_19_code 2 (some (.int)) :: gW) 3 [.ref a0, .int p1] h0 z0 h0 z0 (some (.int r)) 0 0 := by
  refine vM.of (by decide) rfl (Nat.le_of_ble_eq_true rfl) ?_
  intro p e s m args below meth c D dA C hin2
  refine (?_ : vO p l e (vR 3 0 0) s m args below meth c D dA (vA h0 z0) 2 True (fun r : Int32 => MQ below (vQc True h0 z0 D dA h0 z0 (some (.int r))) args s 0 0 (vAr True h0 z0)) 0 0 h0 z0 [(0, .ref a0), (1, .int p1)] 0 [] (FA_same h0 a0 p1)) r hr
  obtain ⟨Q, hQ⟩ : ∃ Q : Int32 → State → Prop, Q = (fun r : Int32 => MQ below (vQc True h0 z0 D dA h0 z0 (some (.int r))) args s 0 0 (vAr True h0 z0)) := ⟨_, rfl⟩
  rw [← hQ]
  unfold FA_same
  refine v_iload_n C dA_same_0 rfl 1 rfl ?_
  refine v_bind fun r1 hr1 => ?_
  refine v_callS0 (N := 1) (As := [.int p1]) (st := []) C (fun _ => trivial) (mA_isTree l h0 z0 p1 r1 hr1) rfl w_244 w_47 (by decide +kernel) ⟨Nat.le_of_ble_eq_true rfl, Nat.le_of_ble_eq_true rfl⟩ rfl rfl (Nat.le_of_ble_eq_true rfl) ⟨Nat.zero_le _, Nat.zero_le _⟩ w_242 w_243 dA_same_1 ?_
  refine v_jn (fun (j : Int32 → Option Int32) => ∀ (y2 : Int32), vO p l e (vR 3 0 0) s m args below meth c D dA (vA h0 z0) 2 True Q 0 0 h0 z0 [] 30 [.int y2] (j y2)) ?_ (fun j3 Hj3 => ?_)
  · intro y2
    exact v_iret C dA_same_30 (by rw [hQ])
  · refine v_if_eq (tgt := 28) C dA_same_4 (by decide) ?_ ?_
    · refine v_bipush (v := (-2)) C dA_same_28 (by decide) ?_
      refine v_lv (lv' := []) [] rfl ?_
      exact Hj3 (-2)
    · refine v_aload_n C dA_same_7 rfl 0 rfl ?_
      refine v_getR C v_cl4 (by decide) in_4 rfl w_203 dA_same_8 (fun a4 => ?_)
      refine v_iload_n C dA_same_11 rfl 1 rfl ?_
      refine v_aald C rfl dA_same_12 (fun a5 => ?_)
      refine v_aload_n C dA_same_13 rfl 0 rfl ?_
      refine v_getR C v_cl4 (by decide) in_4 rfl w_204 dA_same_14 (fun a6 => ?_)
      refine v_iload_n C dA_same_17 rfl 1 rfl ?_
      refine v_aald C rfl dA_same_18 (fun a7 => ?_)
      refine v_gd fun hO8 => ?_
      refine v_bind fun r9 hr9 => ?_
      refine v_callV0 (N := 1) (As := [.ref a7]) (st := []) C (fun _ => trivial) (mT_isLike l h0 z0 a5 a7 r9 hr9) rfl w_498 w_52 (by decide +kernel) ⟨Nat.le_of_ble_eq_true rfl, Nat.le_of_ble_eq_true rfl⟩ rfl rfl (Nat.le_of_ble_eq_true rfl) ⟨Nat.zero_le _, Nat.zero_le _⟩ w_495 w_496 w_497 v_cl3 rfl hO8 dA_same_19 ?_
      refine v_bind fun r10 hr10 => ?_
      refine v_callS0 (N := 1) (As := [.int r9]) (st := []) C (fun _ => trivial) (mA_oneIf l h0 z0 r9 r10 hr10) rfl w_450 w_47 (by decide +kernel) ⟨Nat.le_of_ble_eq_true rfl, Nat.le_of_ble_eq_true rfl⟩ rfl rfl (Nat.le_of_ble_eq_true rfl) ⟨Nat.zero_le _, Nat.zero_le _⟩ w_448 w_449 dA_same_22 ?_
      refine v_goto (tgt := 30) C dA_same_25 (by decide) ?_
      refine v_lv (lv' := []) [] rfl ?_
      exact Hj3 r10
theorem dA_isSlot_0 : decode prog_1_method_27_code 0 = .ok (.iload_n 0, 1) := by decide +kernel
theorem dA_isSlot_1 : decode prog_1_method_27_code 1 = .ok (.ifCond .lt 12, 3) := by decide +kernel
theorem dA_isSlot_4 : decode prog_1_method_27_code 4 = .ok (.iload_n 0, 1) := by decide +kernel
theorem dA_isSlot_5 : decode prog_1_method_27_code 5 = .ok (.iconst 4, 1) := by decide +kernel
theorem dA_isSlot_6 : decode prog_1_method_27_code 6 = .ok (.if_icmp .ge 7, 3) := by decide +kernel
theorem dA_isSlot_9 : decode prog_1_method_27_code 9 = .ok (.iconst 1, 1) := by decide +kernel
theorem dA_isSlot_10 : decode prog_1_method_27_code 10 = .ok (.goto 4, 3) := by decide +kernel
theorem dA_isSlot_13 : decode prog_1_method_27_code 13 = .ok (.iconst 0, 1) := by decide +kernel
theorem dA_isSlot_14 : decode prog_1_method_27_code 14 = .ok (.ireturn, 1) := by decide +kernel
def FA_isSlot (h0 : Hp) (p0 : Int32) : Option Int32 :=
  jn (fun (y1 : Int32) =>
  gd (y1 = 0 ∨ y1 = 1) (some y1))
  (fun (j2 : Int32 → Option Int32) =>
  jn (j2 0)
  (fun (j3 : Option Int32) =>
  if p0 < 0 then
    (j3)
  else
    (if 4 ≤ p0 then
      (j3)
    else
      (j2 1))))
set_option maxRecDepth 100000 in
set_option maxHeartbeats 4000000 in
theorem mA_isSlot (l : Launch) (h0 : Hp) (z0 : Nat) (p0 : Int32) (r : Int32) (hr : FA_isSlot h0 p0 = some r) : vM True l yA_isSlot (Cond.code yA_isSlot prog_1_method_27_code 1 (some (.boolean)) :: gW) 0 [.int p0] h0 z0 h0 z0 (some (.int r)) 0 0 := by
  refine vM.of (by decide) rfl (Nat.le_of_ble_eq_true rfl) ?_
  intro p e s m args below meth c D dA C hin2
  refine (?_ : vO p l e (vR 0 0 0) s m args below meth c D dA (vA h0 z0) 1 True (fun r : Int32 => MQ below (vQc True h0 z0 D dA h0 z0 (some (.int r))) args s 0 0 (vAr True h0 z0)) 0 0 h0 z0 [(0, .int p0)] 0 [] (FA_isSlot h0 p0)) r hr
  obtain ⟨Q, hQ⟩ : ∃ Q : Int32 → State → Prop, Q = (fun r : Int32 => MQ below (vQc True h0 z0 D dA h0 z0 (some (.int r))) args s 0 0 (vAr True h0 z0)) := ⟨_, rfl⟩
  rw [← hQ]
  unfold FA_isSlot
  refine v_iload_n C dA_isSlot_0 rfl 0 rfl ?_
  refine v_jn (fun (j : Int32 → Option Int32) => ∀ (y1 : Int32), vO p l e (vR 0 0 0) s m args below meth c D dA (vA h0 z0) 1 True Q 0 0 h0 z0 [] 14 [.int y1] (j y1)) ?_ (fun j2 Hj2 => ?_)
  · intro y1
    exact v_zret C dA_isSlot_14 (by rw [hQ])
  · refine v_jn (fun (j : Option Int32) => vO p l e (vR 0 0 0) s m args below meth c D dA (vA h0 z0) 1 True Q 0 0 h0 z0 [] 13 [] j) ?_ (fun j3 Hj3 => ?_)
    · refine v_iconst (v := 0) C dA_isSlot_13 (by decide) ?_
      exact Hj2 0
    · refine v_if_lt (tgt := 13) C dA_isSlot_1 (by decide) ?_ ?_
      · refine v_lv (lv' := []) [] rfl ?_
        exact Hj3
      · refine v_iload_n C dA_isSlot_4 rfl 0 rfl ?_
        refine v_iconst (v := 4) C dA_isSlot_5 (by decide) ?_
        refine v_icmp_ge (tgt := 13) C dA_isSlot_6 (by decide) ?_ ?_
        · refine v_lv (lv' := []) [] rfl ?_
          exact Hj3
        · refine v_iconst (v := 1) C dA_isSlot_9 (by decide) ?_
          refine v_goto (tgt := 14) C dA_isSlot_10 (by decide) ?_
          refine v_lv (lv' := []) [] rfl ?_
          exact Hj2 1
theorem dT_becomeLike_0 : decode prog_5_method_31_code 0 = .ok (.aload_n 1, 1) := by decide +kernel
theorem dT_becomeLike_1 : decode prog_5_method_31_code 1 = .ok (.getfield 15, 3) := by decide +kernel
theorem dT_becomeLike_4 : decode prog_5_method_31_code 4 = .ok (.aload_n 0, 1) := by decide +kernel
theorem dT_becomeLike_5 : decode prog_5_method_31_code 5 = .ok (.getfield 39, 3) := by decide +kernel
theorem dT_becomeLike_8 : decode prog_5_method_31_code 8 = .ok (.arraylength, 1) := by decide +kernel
theorem dT_becomeLike_9 : decode prog_5_method_31_code 9 = .ok (.if_icmp .gt 14, 3) := by decide +kernel
theorem dT_becomeLike_12 : decode prog_5_method_31_code 12 = .ok (.aload_n 1, 1) := by decide +kernel
theorem dT_becomeLike_13 : decode prog_5_method_31_code 13 = .ok (.getfield 24, 3) := by decide +kernel
theorem dT_becomeLike_16 : decode prog_5_method_31_code 16 = .ok (.aload_n 0, 1) := by decide +kernel
theorem dT_becomeLike_17 : decode prog_5_method_31_code 17 = .ok (.getfield 24, 3) := by decide +kernel
theorem dT_becomeLike_20 : decode prog_5_method_31_code 20 = .ok (.if_icmp .eq 4, 3) := by decide +kernel
theorem dT_becomeLike_23 : decode prog_5_method_31_code 23 = .ok (.return_, 1) := by decide +kernel
theorem dT_becomeLike_24 : decode prog_5_method_31_code 24 = .ok (.aload_n 0, 1) := by decide +kernel
theorem dT_becomeLike_25 : decode prog_5_method_31_code 25 = .ok (.aload_n 1, 1) := by decide +kernel
theorem dT_becomeLike_26 : decode prog_5_method_31_code 26 = .ok (.getfield 9, 3) := by decide +kernel
theorem dT_becomeLike_29 : decode prog_5_method_31_code 29 = .ok (.putfield 9, 3) := by decide +kernel
theorem dT_becomeLike_32 : decode prog_5_method_31_code 32 = .ok (.aload_n 0, 1) := by decide +kernel
theorem dT_becomeLike_33 : decode prog_5_method_31_code 33 = .ok (.aload_n 1, 1) := by decide +kernel
theorem dT_becomeLike_34 : decode prog_5_method_31_code 34 = .ok (.getfield 15, 3) := by decide +kernel
theorem dT_becomeLike_37 : decode prog_5_method_31_code 37 = .ok (.putfield 15, 3) := by decide +kernel
theorem dT_becomeLike_40 : decode prog_5_method_31_code 40 = .ok (.aload_n 0, 1) := by decide +kernel
theorem dT_becomeLike_41 : decode prog_5_method_31_code 41 = .ok (.aload_n 1, 1) := by decide +kernel
theorem dT_becomeLike_42 : decode prog_5_method_31_code 42 = .ok (.getfield 18, 3) := by decide +kernel
theorem dT_becomeLike_45 : decode prog_5_method_31_code 45 = .ok (.putfield 18, 3) := by decide +kernel
theorem dT_becomeLike_48 : decode prog_5_method_31_code 48 = .ok (.aload_n 0, 1) := by decide +kernel
theorem dT_becomeLike_49 : decode prog_5_method_31_code 49 = .ok (.aload_n 1, 1) := by decide +kernel
theorem dT_becomeLike_50 : decode prog_5_method_31_code 50 = .ok (.getfield 21, 3) := by decide +kernel
theorem dT_becomeLike_53 : decode prog_5_method_31_code 53 = .ok (.putfield 21, 3) := by decide +kernel
theorem dT_becomeLike_56 : decode prog_5_method_31_code 56 = .ok (.aload_n 1, 1) := by decide +kernel
theorem dT_becomeLike_57 : decode prog_5_method_31_code 57 = .ok (.getfield 35, 3) := by decide +kernel
theorem dT_becomeLike_60 : decode prog_5_method_31_code 60 = .ok (.iconst 0, 1) := by decide +kernel
theorem dT_becomeLike_61 : decode prog_5_method_31_code 61 = .ok (.aload_n 0, 1) := by decide +kernel
theorem dT_becomeLike_62 : decode prog_5_method_31_code 62 = .ok (.getfield 35, 3) := by decide +kernel
theorem dT_becomeLike_65 : decode prog_5_method_31_code 65 = .ok (.iconst 0, 1) := by decide +kernel
theorem dT_becomeLike_66 : decode prog_5_method_31_code 66 = .ok (.aload_n 0, 1) := by decide +kernel
theorem dT_becomeLike_67 : decode prog_5_method_31_code 67 = .ok (.getfield 15, 3) := by decide +kernel
theorem dT_becomeLike_70 : decode prog_5_method_31_code 70 = .ok (.invokestatic 151, 3) := by decide +kernel
theorem dT_becomeLike_73 : decode prog_5_method_31_code 73 = .ok (.aload_n 1, 1) := by decide +kernel
theorem dT_becomeLike_74 : decode prog_5_method_31_code 74 = .ok (.getfield 39, 3) := by decide +kernel
theorem dT_becomeLike_77 : decode prog_5_method_31_code 77 = .ok (.iconst 0, 1) := by decide +kernel
theorem dT_becomeLike_78 : decode prog_5_method_31_code 78 = .ok (.aload_n 0, 1) := by decide +kernel
theorem dT_becomeLike_79 : decode prog_5_method_31_code 79 = .ok (.getfield 39, 3) := by decide +kernel
theorem dT_becomeLike_82 : decode prog_5_method_31_code 82 = .ok (.iconst 0, 1) := by decide +kernel
theorem dT_becomeLike_83 : decode prog_5_method_31_code 83 = .ok (.aload_n 0, 1) := by decide +kernel
theorem dT_becomeLike_84 : decode prog_5_method_31_code 84 = .ok (.getfield 15, 3) := by decide +kernel
theorem dT_becomeLike_87 : decode prog_5_method_31_code 87 = .ok (.invokestatic 151, 3) := by decide +kernel
theorem dT_becomeLike_90 : decode prog_5_method_31_code 90 = .ok (.aload_n 1, 1) := by decide +kernel
theorem dT_becomeLike_91 : decode prog_5_method_31_code 91 = .ok (.getfield 42, 3) := by decide +kernel
theorem dT_becomeLike_94 : decode prog_5_method_31_code 94 = .ok (.iconst 0, 1) := by decide +kernel
theorem dT_becomeLike_95 : decode prog_5_method_31_code 95 = .ok (.aload_n 0, 1) := by decide +kernel
theorem dT_becomeLike_96 : decode prog_5_method_31_code 96 = .ok (.getfield 42, 3) := by decide +kernel
theorem dT_becomeLike_99 : decode prog_5_method_31_code 99 = .ok (.iconst 0, 1) := by decide +kernel
theorem dT_becomeLike_100 : decode prog_5_method_31_code 100 = .ok (.aload_n 0, 1) := by decide +kernel
theorem dT_becomeLike_101 : decode prog_5_method_31_code 101 = .ok (.getfield 15, 3) := by decide +kernel
theorem dT_becomeLike_104 : decode prog_5_method_31_code 104 = .ok (.invokestatic 151, 3) := by decide +kernel
theorem dT_becomeLike_107 : decode prog_5_method_31_code 107 = .ok (.aload_n 1, 1) := by decide +kernel
theorem dT_becomeLike_108 : decode prog_5_method_31_code 108 = .ok (.getfield 45, 3) := by decide +kernel
theorem dT_becomeLike_111 : decode prog_5_method_31_code 111 = .ok (.iconst 0, 1) := by decide +kernel
theorem dT_becomeLike_112 : decode prog_5_method_31_code 112 = .ok (.aload_n 0, 1) := by decide +kernel
theorem dT_becomeLike_113 : decode prog_5_method_31_code 113 = .ok (.getfield 45, 3) := by decide +kernel
theorem dT_becomeLike_116 : decode prog_5_method_31_code 116 = .ok (.iconst 0, 1) := by decide +kernel
theorem dT_becomeLike_117 : decode prog_5_method_31_code 117 = .ok (.aload_n 0, 1) := by decide +kernel
theorem dT_becomeLike_118 : decode prog_5_method_31_code 118 = .ok (.getfield 15, 3) := by decide +kernel
theorem dT_becomeLike_121 : decode prog_5_method_31_code 121 = .ok (.invokestatic 151, 3) := by decide +kernel
theorem dT_becomeLike_124 : decode prog_5_method_31_code 124 = .ok (.aload_n 1, 1) := by decide +kernel
theorem dT_becomeLike_125 : decode prog_5_method_31_code 125 = .ok (.getfield 48, 3) := by decide +kernel
theorem dT_becomeLike_128 : decode prog_5_method_31_code 128 = .ok (.iconst 0, 1) := by decide +kernel
theorem dT_becomeLike_129 : decode prog_5_method_31_code 129 = .ok (.aload_n 0, 1) := by decide +kernel
theorem dT_becomeLike_130 : decode prog_5_method_31_code 130 = .ok (.getfield 48, 3) := by decide +kernel
theorem dT_becomeLike_133 : decode prog_5_method_31_code 133 = .ok (.iconst 0, 1) := by decide +kernel
theorem dT_becomeLike_134 : decode prog_5_method_31_code 134 = .ok (.aload_n 0, 1) := by decide +kernel
theorem dT_becomeLike_135 : decode prog_5_method_31_code 135 = .ok (.getfield 15, 3) := by decide +kernel
theorem dT_becomeLike_138 : decode prog_5_method_31_code 138 = .ok (.invokestatic 151, 3) := by decide +kernel
theorem dT_becomeLike_141 : decode prog_5_method_31_code 141 = .ok (.aload_n 1, 1) := by decide +kernel
theorem dT_becomeLike_142 : decode prog_5_method_31_code 142 = .ok (.getfield 51, 3) := by decide +kernel
theorem dT_becomeLike_145 : decode prog_5_method_31_code 145 = .ok (.iconst 0, 1) := by decide +kernel
theorem dT_becomeLike_146 : decode prog_5_method_31_code 146 = .ok (.aload_n 0, 1) := by decide +kernel
theorem dT_becomeLike_147 : decode prog_5_method_31_code 147 = .ok (.getfield 51, 3) := by decide +kernel
theorem dT_becomeLike_150 : decode prog_5_method_31_code 150 = .ok (.iconst 0, 1) := by decide +kernel
theorem dT_becomeLike_151 : decode prog_5_method_31_code 151 = .ok (.aload_n 0, 1) := by decide +kernel
theorem dT_becomeLike_152 : decode prog_5_method_31_code 152 = .ok (.getfield 24, 3) := by decide +kernel
theorem dT_becomeLike_155 : decode prog_5_method_31_code 155 = .ok (.invokestatic 151, 3) := by decide +kernel
theorem dT_becomeLike_158 : decode prog_5_method_31_code 158 = .ok (.return_, 1) := by decide +kernel
def FT_becomeLike (h0 : Hp) (a0 : Nat) (u1 : Nat) : Option Hp :=
  gI h0 u1 3 9 (fun x1 =>
  gR h0 a0 3 3 (fun a2 =>
  alen h0 a2 0 (fun x3 =>
  jn (some h0)
  (fun (j4 : Option Hp) =>
  if x3 < x1 then
    (j4)
  else
    (gI h0 u1 3 0 (fun x5 =>
    gI h0 a0 3 0 (fun x6 =>
    if x5 = x6 then
      (gI h0 u1 3 8 (fun x7 =>
      pF h0 a0 3 8 (.int x7) (fun h8 =>
      gI h8 u1 3 9 (fun x9 =>
      pF h8 a0 3 9 (.int x9) (fun h10 =>
      gI h10 u1 3 10 (fun x11 =>
      pF h10 a0 3 10 (.int x11) (fun h12 =>
      gI h12 u1 3 11 (fun x13 =>
      pF h12 a0 3 11 (.int x13) (fun h14 =>
      gR h14 u1 3 2 (fun a15 =>
      gR h14 a0 3 2 (fun a16 =>
      gI h14 a0 3 9 (fun x17 =>
      cpI h14 a15 0 0 a16 0 x17 (fun h18 =>
      gR h18 u1 3 3 (fun a19 =>
      gR h18 a0 3 3 (fun a20 =>
      gI h18 a0 3 9 (fun x21 =>
      cpI h18 a19 0 0 a20 0 x21 (fun h22 =>
      gR h22 u1 3 4 (fun a23 =>
      gR h22 a0 3 4 (fun a24 =>
      gI h22 a0 3 9 (fun x25 =>
      cpI h22 a23 0 0 a24 0 x25 (fun h26 =>
      gR h26 u1 3 5 (fun a27 =>
      gR h26 a0 3 5 (fun a28 =>
      gI h26 a0 3 9 (fun x29 =>
      cpI h26 a27 0 0 a28 0 x29 (fun h30 =>
      gR h30 u1 3 6 (fun a31 =>
      gR h30 a0 3 6 (fun a32 =>
      gI h30 a0 3 9 (fun x33 =>
      cpI h30 a31 0 0 a32 0 x33 (fun h34 =>
      gR h34 u1 3 7 (fun a35 =>
      gR h34 a0 3 7 (fun a36 =>
      gI h34 a0 3 0 (fun x37 =>
      cpI h34 a35 0 0 a36 0 x37 (fun h38 =>
      some h38)))))))))))))))))))))))))))))))))
    else
      (j4))))))))
set_option maxRecDepth 100000 in
set_option maxHeartbeats 4000000 in
theorem mT_becomeLike (l : Launch) (h0 : Hp) (z0 : Nat) (a0 : Nat) (u1 : Nat) (r : Hp) (hr : FT_becomeLike h0 a0 u1 = some r) : vM False l yT_becomeLike (Cond.code yT_becomeLike prog_5_method_31_code 2 none :: gW) 1 [.ref a0, .ref u1] h0 z0 r z0 none 0 0 := by
  refine vM.of (by decide) rfl (Nat.le_of_ble_eq_true rfl) ?_
  intro p e s m args below meth c D dA C hin2
  refine (?_ : vO p l e (vR 1 0 0) s m args below meth c D dA (vA h0 z0) 2 False (fun r : Hp => MQ below (vQc False h0 z0 D dA r z0 none) args s 0 0 (vAr False h0 z0)) 0 0 h0 z0 [(0, .ref a0), (1, .ref u1)] 0 [] (FT_becomeLike h0 a0 u1)) r hr
  obtain ⟨Q, hQ⟩ : ∃ Q : Hp → State → Prop, Q = (fun r : Hp => MQ below (vQc False h0 z0 D dA r z0 none) args s 0 0 (vAr False h0 z0)) := ⟨_, rfl⟩
  rw [← hQ]
  unfold FT_becomeLike
  refine v_aload_n C dT_becomeLike_0 rfl 1 rfl ?_
  refine v_getI C v_cl3 (by decide) in_3 rfl w_170 dT_becomeLike_1 (fun x1 => ?_)
  refine v_aload_n C dT_becomeLike_4 rfl 0 rfl ?_
  refine v_getR C v_cl3 (by decide) in_3 rfl w_163 dT_becomeLike_5 (fun a2 => ?_)
  refine v_alen C rfl dT_becomeLike_8 (fun x3 => ?_)
  refine v_jn (fun (j : Option Hp) => vO p l e (vR 1 0 0) s m args below meth c D dA (vA h0 z0) 2 False Q 0 0 h0 z0 [] 23 [] j) ?_ (fun j4 Hj4 => ?_)
  · exact v_vret C dT_becomeLike_23 (by rw [hQ])
  · refine v_icmp_gt (tgt := 23) C dT_becomeLike_9 (by decide) ?_ ?_
    · refine v_lv (lv' := []) [] rfl ?_
      exact Hj4
    · refine v_aload_n C dT_becomeLike_12 rfl 1 rfl ?_
      refine v_getI C v_cl3 (by decide) in_3 rfl w_160 dT_becomeLike_13 (fun x5 => ?_)
      refine v_aload_n C dT_becomeLike_16 rfl 0 rfl ?_
      refine v_getI C v_cl3 (by decide) in_3 rfl w_160 dT_becomeLike_17 (fun x6 => ?_)
      refine v_icmp_eq (tgt := 24) C dT_becomeLike_20 (by decide) ?_ ?_
      · refine v_aload_n C dT_becomeLike_24 rfl 0 rfl ?_
        refine v_aload_n C dT_becomeLike_25 rfl 1 rfl ?_
        refine v_getI C v_cl3 (by decide) in_3 rfl w_168 dT_becomeLike_26 (fun x7 => ?_)
        refine v_put C v_cl3 (by decide) in_3 ty_3 ty_3_ok nm_3 rfl w_168 rfl (ty := .int) (by decide +kernel) rfl rfl dT_becomeLike_29 (fun h8 => ?_)
        refine v_aload_n C dT_becomeLike_32 rfl 0 rfl ?_
        refine v_aload_n C dT_becomeLike_33 rfl 1 rfl ?_
        refine v_getI C v_cl3 (by decide) in_3 rfl w_170 dT_becomeLike_34 (fun x9 => ?_)
        refine v_put C v_cl3 (by decide) in_3 ty_3 ty_3_ok nm_3 rfl w_170 rfl (ty := .int) (by decide +kernel) rfl rfl dT_becomeLike_37 (fun h10 => ?_)
        refine v_aload_n C dT_becomeLike_40 rfl 0 rfl ?_
        refine v_aload_n C dT_becomeLike_41 rfl 1 rfl ?_
        refine v_getI C v_cl3 (by decide) in_3 rfl w_172 dT_becomeLike_42 (fun x11 => ?_)
        refine v_put C v_cl3 (by decide) in_3 ty_3 ty_3_ok nm_3 rfl w_172 rfl (ty := .int) (by decide +kernel) rfl rfl dT_becomeLike_45 (fun h12 => ?_)
        refine v_aload_n C dT_becomeLike_48 rfl 0 rfl ?_
        refine v_aload_n C dT_becomeLike_49 rfl 1 rfl ?_
        refine v_getI C v_cl3 (by decide) in_3 rfl w_174 dT_becomeLike_50 (fun x13 => ?_)
        refine v_put C v_cl3 (by decide) in_3 ty_3 ty_3_ok nm_3 rfl w_174 rfl (ty := .int) (by decide +kernel) rfl rfl dT_becomeLike_53 (fun h14 => ?_)
        refine v_aload_n C dT_becomeLike_56 rfl 1 rfl ?_
        refine v_getR C v_cl3 (by decide) in_3 rfl w_162 dT_becomeLike_57 (fun a15 => ?_)
        refine v_iconst (v := 0) C dT_becomeLike_60 (by decide) ?_
        refine v_aload_n C dT_becomeLike_61 rfl 0 rfl ?_
        refine v_getR C v_cl3 (by decide) in_3 rfl w_162 dT_becomeLike_62 (fun a16 => ?_)
        refine v_iconst (v := 0) C dT_becomeLike_65 (by decide) ?_
        refine v_aload_n C dT_becomeLike_66 rfl 0 rfl ?_
        refine v_getI C v_cl3 (by decide) in_3 rfl w_170 dT_becomeLike_67 (fun x17 => ?_)
        refine v_copy C rfl w_510 w_512 w_511 w_58 (Nat.le_of_ble_eq_true rfl) (Nat.le_of_ble_eq_true rfl) dT_becomeLike_70 (fun h18 => ?_)
        refine v_aload_n C dT_becomeLike_73 rfl 1 rfl ?_
        refine v_getR C v_cl3 (by decide) in_3 rfl w_163 dT_becomeLike_74 (fun a19 => ?_)
        refine v_iconst (v := 0) C dT_becomeLike_77 (by decide) ?_
        refine v_aload_n C dT_becomeLike_78 rfl 0 rfl ?_
        refine v_getR C v_cl3 (by decide) in_3 rfl w_163 dT_becomeLike_79 (fun a20 => ?_)
        refine v_iconst (v := 0) C dT_becomeLike_82 (by decide) ?_
        refine v_aload_n C dT_becomeLike_83 rfl 0 rfl ?_
        refine v_getI C v_cl3 (by decide) in_3 rfl w_170 dT_becomeLike_84 (fun x21 => ?_)
        refine v_copy C rfl w_510 w_512 w_511 w_58 (Nat.le_of_ble_eq_true rfl) (Nat.le_of_ble_eq_true rfl) dT_becomeLike_87 (fun h22 => ?_)
        refine v_aload_n C dT_becomeLike_90 rfl 1 rfl ?_
        refine v_getR C v_cl3 (by decide) in_3 rfl w_164 dT_becomeLike_91 (fun a23 => ?_)
        refine v_iconst (v := 0) C dT_becomeLike_94 (by decide) ?_
        refine v_aload_n C dT_becomeLike_95 rfl 0 rfl ?_
        refine v_getR C v_cl3 (by decide) in_3 rfl w_164 dT_becomeLike_96 (fun a24 => ?_)
        refine v_iconst (v := 0) C dT_becomeLike_99 (by decide) ?_
        refine v_aload_n C dT_becomeLike_100 rfl 0 rfl ?_
        refine v_getI C v_cl3 (by decide) in_3 rfl w_170 dT_becomeLike_101 (fun x25 => ?_)
        refine v_copy C rfl w_510 w_512 w_511 w_58 (Nat.le_of_ble_eq_true rfl) (Nat.le_of_ble_eq_true rfl) dT_becomeLike_104 (fun h26 => ?_)
        refine v_aload_n C dT_becomeLike_107 rfl 1 rfl ?_
        refine v_getR C v_cl3 (by decide) in_3 rfl w_165 dT_becomeLike_108 (fun a27 => ?_)
        refine v_iconst (v := 0) C dT_becomeLike_111 (by decide) ?_
        refine v_aload_n C dT_becomeLike_112 rfl 0 rfl ?_
        refine v_getR C v_cl3 (by decide) in_3 rfl w_165 dT_becomeLike_113 (fun a28 => ?_)
        refine v_iconst (v := 0) C dT_becomeLike_116 (by decide) ?_
        refine v_aload_n C dT_becomeLike_117 rfl 0 rfl ?_
        refine v_getI C v_cl3 (by decide) in_3 rfl w_170 dT_becomeLike_118 (fun x29 => ?_)
        refine v_copy C rfl w_510 w_512 w_511 w_58 (Nat.le_of_ble_eq_true rfl) (Nat.le_of_ble_eq_true rfl) dT_becomeLike_121 (fun h30 => ?_)
        refine v_aload_n C dT_becomeLike_124 rfl 1 rfl ?_
        refine v_getR C v_cl3 (by decide) in_3 rfl w_166 dT_becomeLike_125 (fun a31 => ?_)
        refine v_iconst (v := 0) C dT_becomeLike_128 (by decide) ?_
        refine v_aload_n C dT_becomeLike_129 rfl 0 rfl ?_
        refine v_getR C v_cl3 (by decide) in_3 rfl w_166 dT_becomeLike_130 (fun a32 => ?_)
        refine v_iconst (v := 0) C dT_becomeLike_133 (by decide) ?_
        refine v_aload_n C dT_becomeLike_134 rfl 0 rfl ?_
        refine v_getI C v_cl3 (by decide) in_3 rfl w_170 dT_becomeLike_135 (fun x33 => ?_)
        refine v_copy C rfl w_510 w_512 w_511 w_58 (Nat.le_of_ble_eq_true rfl) (Nat.le_of_ble_eq_true rfl) dT_becomeLike_138 (fun h34 => ?_)
        refine v_aload_n C dT_becomeLike_141 rfl 1 rfl ?_
        refine v_getR C v_cl3 (by decide) in_3 rfl w_167 dT_becomeLike_142 (fun a35 => ?_)
        refine v_iconst (v := 0) C dT_becomeLike_145 (by decide) ?_
        refine v_aload_n C dT_becomeLike_146 rfl 0 rfl ?_
        refine v_getR C v_cl3 (by decide) in_3 rfl w_167 dT_becomeLike_147 (fun a36 => ?_)
        refine v_iconst (v := 0) C dT_becomeLike_150 (by decide) ?_
        refine v_aload_n C dT_becomeLike_151 rfl 0 rfl ?_
        refine v_getI C v_cl3 (by decide) in_3 rfl w_160 dT_becomeLike_152 (fun x37 => ?_)
        refine v_copy C rfl w_510 w_512 w_511 w_58 (Nat.le_of_ble_eq_true rfl) (Nat.le_of_ble_eq_true rfl) dT_becomeLike_155 (fun h38 => ?_)
        exact v_vret C dT_becomeLike_158 (by rw [hQ])
      · refine v_lv (lv' := []) [] rfl ?_
        exact Hj4
theorem dA_save_0 : decode prog_1_method_20_code 0 = .ok (.iload_n 1, 1) := by decide +kernel
theorem dA_save_1 : decode prog_1_method_20_code 1 = .ok (.invokestatic 183, 3) := by decide +kernel
theorem dA_save_4 : decode prog_1_method_20_code 4 = .ok (.ifCond .eq 17, 3) := by decide +kernel
theorem dA_save_7 : decode prog_1_method_20_code 7 = .ok (.iload_n 2, 1) := by decide +kernel
theorem dA_save_8 : decode prog_1_method_20_code 8 = .ok (.invokestatic 123, 3) := by decide +kernel
theorem dA_save_11 : decode prog_1_method_20_code 11 = .ok (.ifCond .eq 10, 3) := by decide +kernel
theorem dA_save_14 : decode prog_1_method_20_code 14 = .ok (.iload_n 3, 1) := by decide +kernel
theorem dA_save_15 : decode prog_1_method_20_code 15 = .ok (.invokestatic 83, 3) := by decide +kernel
theorem dA_save_18 : decode prog_1_method_20_code 18 = .ok (.ifCond .ne 6, 3) := by decide +kernel
theorem dA_save_21 : decode prog_1_method_20_code 21 = .ok (.bipush (-2), 2) := by decide +kernel
theorem dA_save_23 : decode prog_1_method_20_code 23 = .ok (.ireturn, 1) := by decide +kernel
theorem dA_save_24 : decode prog_1_method_20_code 24 = .ok (.aload_n 0, 1) := by decide +kernel
theorem dA_save_25 : decode prog_1_method_20_code 25 = .ok (.getfield 21, 3) := by decide +kernel
theorem dA_save_28 : decode prog_1_method_20_code 28 = .ok (.iload_n 1, 1) := by decide +kernel
theorem dA_save_29 : decode prog_1_method_20_code 29 = .ok (.baload, 1) := by decide +kernel
theorem dA_save_30 : decode prog_1_method_20_code 30 = .ok (.invokestatic 133, 3) := by decide +kernel
theorem dA_save_33 : decode prog_1_method_20_code 33 = .ok (.istore 4, 2) := by decide +kernel
theorem dA_save_35 : decode prog_1_method_20_code 35 = .ok (.aload_n 0, 1) := by decide +kernel
theorem dA_save_36 : decode prog_1_method_20_code 36 = .ok (.getfield 18, 3) := by decide +kernel
theorem dA_save_39 : decode prog_1_method_20_code 39 = .ok (.iload_n 1, 1) := by decide +kernel
theorem dA_save_40 : decode prog_1_method_20_code 40 = .ok (.aaload, 1) := by decide +kernel
theorem dA_save_41 : decode prog_1_method_20_code 41 = .ok (.aload_n 0, 1) := by decide +kernel
theorem dA_save_42 : decode prog_1_method_20_code 42 = .ok (.iload_n 2, 1) := by decide +kernel
theorem dA_save_43 : decode prog_1_method_20_code 43 = .ok (.iload_n 3, 1) := by decide +kernel
theorem dA_save_44 : decode prog_1_method_20_code 44 = .ok (.invokevirtual 126, 3) := by decide +kernel
theorem dA_save_47 : decode prog_1_method_20_code 47 = .ok (.invokevirtual 186, 3) := by decide +kernel
theorem dA_save_50 : decode prog_1_method_20_code 50 = .ok (.aload_n 0, 1) := by decide +kernel
theorem dA_save_51 : decode prog_1_method_20_code 51 = .ok (.getfield 21, 3) := by decide +kernel
theorem dA_save_54 : decode prog_1_method_20_code 54 = .ok (.iload_n 1, 1) := by decide +kernel
theorem dA_save_55 : decode prog_1_method_20_code 55 = .ok (.iconst 1, 1) := by decide +kernel
theorem dA_save_56 : decode prog_1_method_20_code 56 = .ok (.bastore, 1) := by decide +kernel
theorem dA_save_57 : decode prog_1_method_20_code 57 = .ok (.iload 4, 2) := by decide +kernel
theorem dA_save_59 : decode prog_1_method_20_code 59 = .ok (.ireturn, 1) := by decide +kernel
def FA_save (h0 : Hp) (a0 : Nat) (p1 : Int32) (p2 : Int32) (p3 : Int32) : Option (Hp × Int32) :=
  (FA_isSlot h0 p1).bind (fun r1 =>
  jn (some (h0, (-2)))
  (fun (j2 : Option (Hp × Int32)) =>
  if r1 = 0 then
    (j2)
  else
    ((FA_isEnd h0 p2).bind (fun r3 =>
    if r3 = 0 then
      (j2)
    else
      ((FA_isTree h0 p3).bind (fun r4 =>
      if r4 = 0 then
        (j2)
      else
        (gR h0 a0 4 5 (fun a5 =>
        ldI h0 a5 1 p1 (fun x6 =>
        (FA_oneIf h0 x6).bind (fun r7 =>
        gR h0 a0 4 4 (fun a8 =>
        ldQ h0 a8 3 p1 (fun a9 =>
        gd (isO h0 a0 4 = true) ((FA_treeOf h0 a0 p2 p3).bind (fun r11 =>
        gd (isO h0 a9 3 = true) ((FT_becomeLike h0 a9 r11).bind (fun r13 =>
        gR r13 a0 4 5 (fun a14 =>
        stI r13 a14 1 p1 (vp_nar .boolean 1) (fun h15 =>
        some (h15, r7)))))))))))))))))))
set_option maxRecDepth 100000 in
set_option maxHeartbeats 4000000 in
theorem mA_save (l : Launch) (h0 : Hp) (z0 : Nat) (a0 : Nat) (p1 : Int32) (p2 : Int32) (p3 : Int32) (r : (Hp × Int32)) (hr : FA_save h0 a0 p1 p2 p3 = some r) : vM False l yA_save (Cond.code yA_save prog_1_method_20_code 5 (some (.int)) :: gW) 2 [.ref a0, .int p1, .int p2, .int p3] h0 z0 r.1 z0 (some (.int r.2)) 0 0 := by
  refine vM.of (by decide) rfl (Nat.le_of_ble_eq_true rfl) ?_
  intro p e s m args below meth c D dA C hin2
  refine (?_ : vO p l e (vR 2 0 0) s m args below meth c D dA (vA h0 z0) 5 False (fun r : (Hp × Int32) => MQ below (vQc False h0 z0 D dA r.1 z0 (some (.int r.2))) args s 0 0 (vAr False h0 z0)) 0 0 h0 z0 [(0, .ref a0), (1, .int p1), (2, .int p2), (3, .int p3)] 0 [] (FA_save h0 a0 p1 p2 p3)) r hr
  obtain ⟨Q, hQ⟩ : ∃ Q : (Hp × Int32) → State → Prop, Q = (fun r : (Hp × Int32) => MQ below (vQc False h0 z0 D dA r.1 z0 (some (.int r.2))) args s 0 0 (vAr False h0 z0)) := ⟨_, rfl⟩
  rw [← hQ]
  unfold FA_save
  refine v_iload_n C dA_save_0 rfl 1 rfl ?_
  refine v_bind fun r1 hr1 => ?_
  refine v_callS0 (N := 1) (As := [.int p1]) (st := []) C (fun _ => trivial) (mA_isSlot l h0 z0 p1 r1 hr1) rfl w_505 w_47 (by decide +kernel) ⟨Nat.le_of_ble_eq_true rfl, Nat.le_of_ble_eq_true rfl⟩ rfl rfl (Nat.le_of_ble_eq_true rfl) ⟨Nat.zero_le _, Nat.zero_le _⟩ w_503 w_504 dA_save_1 ?_
  refine v_jn (fun (j : Option (Hp × Int32)) => vO p l e (vR 2 0 0) s m args below meth c D dA (vA h0 z0) 5 False Q 0 0 h0 z0 [] 21 [] j) ?_ (fun j2 Hj2 => ?_)
  · refine v_bipush (v := (-2)) C dA_save_21 (by decide) ?_
    exact v_iret C dA_save_23 (by rw [hQ])
  · refine v_if_eq (tgt := 21) C dA_save_4 (by decide) ?_ ?_
    · refine v_lv (lv' := []) [] rfl ?_
      exact Hj2
    · refine v_iload_n C dA_save_7 rfl 2 rfl ?_
      refine v_bind fun r3 hr3 => ?_
      refine v_callS0 (N := 1) (As := [.int p2]) (st := []) C (fun _ => trivial) (mA_isEnd l h0 z0 p2 r3 hr3) rfl w_435 w_47 (by decide +kernel) ⟨Nat.le_of_ble_eq_true rfl, Nat.le_of_ble_eq_true rfl⟩ rfl rfl (Nat.le_of_ble_eq_true rfl) ⟨Nat.zero_le _, Nat.zero_le _⟩ w_433 w_434 dA_save_8 ?_
      refine v_if_eq (tgt := 21) C dA_save_11 (by decide) ?_ ?_
      · refine v_lv (lv' := []) [] rfl ?_
        exact Hj2
      · refine v_iload_n C dA_save_14 rfl 3 rfl ?_
        refine v_bind fun r4 hr4 => ?_
        refine v_callS0 (N := 1) (As := [.int p3]) (st := []) C (fun _ => trivial) (mA_isTree l h0 z0 p3 r4 hr4) rfl w_244 w_47 (by decide +kernel) ⟨Nat.le_of_ble_eq_true rfl, Nat.le_of_ble_eq_true rfl⟩ rfl rfl (Nat.le_of_ble_eq_true rfl) ⟨Nat.zero_le _, Nat.zero_le _⟩ w_242 w_243 dA_save_15 ?_
        refine v_if_ne (tgt := 24) C dA_save_18 (by decide) ?_ ?_
        · refine v_aload_n C dA_save_24 rfl 0 rfl ?_
          refine v_getR C v_cl4 (by decide) in_4 rfl w_206 dA_save_25 (fun a5 => ?_)
          refine v_iload_n C dA_save_28 rfl 1 rfl ?_
          refine v_zald C rfl dA_save_29 (fun x6 => ?_)
          refine v_bind fun r7 hr7 => ?_
          refine v_callS0 (N := 1) (As := [.int x6]) (st := []) C (fun _ => trivial) (mA_oneIf l h0 z0 x6 r7 hr7) rfl w_450 w_47 (by decide +kernel) ⟨Nat.le_of_ble_eq_true rfl, Nat.le_of_ble_eq_true rfl⟩ rfl rfl (Nat.le_of_ble_eq_true rfl) ⟨Nat.zero_le _, Nat.zero_le _⟩ w_448 w_449 dA_save_30 ?_
          refine v_istore (lv' := [(0, .ref a0), (1, .int p1), (2, .int p2), (3, .int p3), (4, .int r7)]) C dA_save_33 (by decide) [1, 2, 3, 4, 0] rfl ?_
          refine v_aload_n C dA_save_35 rfl 0 rfl ?_
          refine v_getR C v_cl4 (by decide) in_4 rfl w_205 dA_save_36 (fun a8 => ?_)
          refine v_iload_n C dA_save_39 rfl 1 rfl ?_
          refine v_aald C rfl dA_save_40 (fun a9 => ?_)
          refine v_aload_n C dA_save_41 rfl 0 rfl ?_
          refine v_iload_n C dA_save_42 rfl 2 rfl ?_
          refine v_iload_n C dA_save_43 rfl 3 rfl ?_
          refine v_gd fun hO10 => ?_
          refine v_bind fun r11 hr11 => ?_
          refine v_callV0 (N := 2) (As := [.int p2, .int p3]) (st := [.ref a9]) C (fun _ => trivial) (mA_treeOf l h0 z0 a0 p2 p3 r11 hr11) rfl w_439 w_47 (by decide +kernel) ⟨Nat.le_of_ble_eq_true rfl, Nat.le_of_ble_eq_true rfl⟩ rfl rfl (Nat.le_of_ble_eq_true rfl) ⟨Nat.zero_le _, Nat.zero_le _⟩ w_436 w_438 w_18 v_cl4 rfl hO10 dA_save_44 ?_
          refine v_gd fun hO12 => ?_
          refine v_bind fun r13 hr13 => ?_
          refine v_callV0 (N := 1) (As := [.ref r11]) (st := []) C (fun f => f.elim) (mT_becomeLike l h0 z0 a9 r11 r13 hr13) rfl w_509 w_52 (by decide +kernel) ⟨Nat.le_of_ble_eq_true rfl, Nat.le_of_ble_eq_true rfl⟩ rfl rfl (Nat.le_of_ble_eq_true rfl) ⟨Nat.zero_le _, Nat.zero_le _⟩ w_506 w_507 w_508 v_cl3 rfl hO12 dA_save_47 ?_
          refine v_aload_n C dA_save_50 rfl 0 rfl ?_
          refine v_getR C v_cl4 (by decide) in_4 rfl w_206 dA_save_51 (fun a14 => ?_)
          refine v_iload_n C dA_save_54 rfl 1 rfl ?_
          refine v_iconst (v := 1) C dA_save_55 (by decide) ?_
          refine v_zast C rfl dA_save_56 (fun h15 => ?_)
          refine v_iload C dA_save_57 4 rfl ?_
          exact v_iret C dA_save_59 (by rw [hQ])
        · refine v_lv (lv' := []) [] rfl ?_
          exact Hj2
theorem dA_restore_0 : decode prog_1_method_21_code 0 = .ok (.iload_n 1, 1) := by decide +kernel
theorem dA_restore_1 : decode prog_1_method_21_code 1 = .ok (.invokestatic 183, 3) := by decide +kernel
theorem dA_restore_4 : decode prog_1_method_21_code 4 = .ok (.ifCond .eq 17, 3) := by decide +kernel
theorem dA_restore_7 : decode prog_1_method_21_code 7 = .ok (.iload_n 2, 1) := by decide +kernel
theorem dA_restore_8 : decode prog_1_method_21_code 8 = .ok (.invokestatic 123, 3) := by decide +kernel
theorem dA_restore_11 : decode prog_1_method_21_code 11 = .ok (.ifCond .eq 10, 3) := by decide +kernel
theorem dA_restore_14 : decode prog_1_method_21_code 14 = .ok (.iload_n 3, 1) := by decide +kernel
theorem dA_restore_15 : decode prog_1_method_21_code 15 = .ok (.invokestatic 83, 3) := by decide +kernel
theorem dA_restore_18 : decode prog_1_method_21_code 18 = .ok (.ifCond .ne 6, 3) := by decide +kernel
theorem dA_restore_21 : decode prog_1_method_21_code 21 = .ok (.bipush (-2), 2) := by decide +kernel
theorem dA_restore_23 : decode prog_1_method_21_code 23 = .ok (.ireturn, 1) := by decide +kernel
theorem dA_restore_24 : decode prog_1_method_21_code 24 = .ok (.aload_n 0, 1) := by decide +kernel
theorem dA_restore_25 : decode prog_1_method_21_code 25 = .ok (.getfield 21, 3) := by decide +kernel
theorem dA_restore_28 : decode prog_1_method_21_code 28 = .ok (.iload_n 1, 1) := by decide +kernel
theorem dA_restore_29 : decode prog_1_method_21_code 29 = .ok (.baload, 1) := by decide +kernel
theorem dA_restore_30 : decode prog_1_method_21_code 30 = .ok (.ifCond .ne 6, 3) := by decide +kernel
theorem dA_restore_33 : decode prog_1_method_21_code 33 = .ok (.bipush (-4), 2) := by decide +kernel
theorem dA_restore_35 : decode prog_1_method_21_code 35 = .ok (.ireturn, 1) := by decide +kernel
theorem dA_restore_36 : decode prog_1_method_21_code 36 = .ok (.aload_n 0, 1) := by decide +kernel
theorem dA_restore_37 : decode prog_1_method_21_code 37 = .ok (.iload_n 2, 1) := by decide +kernel
theorem dA_restore_38 : decode prog_1_method_21_code 38 = .ok (.iload_n 3, 1) := by decide +kernel
theorem dA_restore_39 : decode prog_1_method_21_code 39 = .ok (.invokevirtual 126, 3) := by decide +kernel
theorem dA_restore_42 : decode prog_1_method_21_code 42 = .ok (.aload_n 0, 1) := by decide +kernel
theorem dA_restore_43 : decode prog_1_method_21_code 43 = .ok (.getfield 18, 3) := by decide +kernel
theorem dA_restore_46 : decode prog_1_method_21_code 46 = .ok (.iload_n 1, 1) := by decide +kernel
theorem dA_restore_47 : decode prog_1_method_21_code 47 = .ok (.aaload, 1) := by decide +kernel
theorem dA_restore_48 : decode prog_1_method_21_code 48 = .ok (.invokevirtual 186, 3) := by decide +kernel
theorem dA_restore_51 : decode prog_1_method_21_code 51 = .ok (.iload_n 2, 1) := by decide +kernel
theorem dA_restore_52 : decode prog_1_method_21_code 52 = .ok (.iconst 1, 1) := by decide +kernel
theorem dA_restore_53 : decode prog_1_method_21_code 53 = .ok (.if_icmp .ne 11, 3) := by decide +kernel
theorem dA_restore_56 : decode prog_1_method_21_code 56 = .ok (.aload_n 0, 1) := by decide +kernel
theorem dA_restore_57 : decode prog_1_method_21_code 57 = .ok (.getfield 42, 3) := by decide +kernel
theorem dA_restore_60 : decode prog_1_method_21_code 60 = .ok (.iload_n 3, 1) := by decide +kernel
theorem dA_restore_61 : decode prog_1_method_21_code 61 = .ok (.invokevirtual 93, 3) := by decide +kernel
theorem dA_restore_64 : decode prog_1_method_21_code 64 = .ok (.aload_n 0, 1) := by decide +kernel
theorem dA_restore_65 : decode prog_1_method_21_code 65 = .ok (.getfield 18, 3) := by decide +kernel
theorem dA_restore_68 : decode prog_1_method_21_code 68 = .ok (.iload_n 1, 1) := by decide +kernel
theorem dA_restore_69 : decode prog_1_method_21_code 69 = .ok (.aaload, 1) := by decide +kernel
theorem dA_restore_70 : decode prog_1_method_21_code 70 = .ok (.getfield 87, 3) := by decide +kernel
theorem dA_restore_73 : decode prog_1_method_21_code 73 = .ok (.ireturn, 1) := by decide +kernel
def FA_restore (h0 : Hp) (a0 : Nat) (p1 : Int32) (p2 : Int32) (p3 : Int32) : Option (Hp × Int32) :=
  (FA_isSlot h0 p1).bind (fun r1 =>
  jn (some (h0, (-2)))
  (fun (j2 : Option (Hp × Int32)) =>
  if r1 = 0 then
    (j2)
  else
    ((FA_isEnd h0 p2).bind (fun r3 =>
    if r3 = 0 then
      (j2)
    else
      ((FA_isTree h0 p3).bind (fun r4 =>
      if r4 = 0 then
        (j2)
      else
        (gR h0 a0 4 5 (fun a5 =>
        ldI h0 a5 1 p1 (fun x6 =>
        if x6 = 0 then
          (some (h0, (-4)))
        else
          (gd (isO h0 a0 4 = true) ((FA_treeOf h0 a0 p2 p3).bind (fun r8 =>
          gR h0 a0 4 4 (fun a9 =>
          ldQ h0 a9 3 p1 (fun a10 =>
          gd (isO h0 r8 3 = true) ((FT_becomeLike h0 r8 a10).bind (fun r12 =>
          jn (fun (h13 : Hp) =>
          gR h13 a0 4 4 (fun a15 =>
          ldQ h13 a15 3 p1 (fun a16 =>
          gI h13 a16 3 8 (fun x17 =>
          some (h13, x17)))))
          (fun (j14 : Hp → Option (Hp × Int32)) =>
          if p2 = 1 then
            (gR r12 a0 4 11 (fun a18 =>
            gd (isO r12 a18 2 = true) ((FR_leaveCodeOf r12 a18 p3).bind (fun r20 =>
            j14 r20))))
          else
            (j14 r12))))))))))))))))))
set_option maxRecDepth 100000 in
set_option maxHeartbeats 4000000 in
theorem mA_restore (l : Launch) (h0 : Hp) (z0 : Nat) (a0 : Nat) (p1 : Int32) (p2 : Int32) (p3 : Int32) (r : (Hp × Int32)) (hr : FA_restore h0 a0 p1 p2 p3 = some r) : vM False l yA_restore (Cond.code yA_restore prog_1_method_21_code 4 (some (.int)) :: gW) 2 [.ref a0, .int p1, .int p2, .int p3] h0 z0 r.1 z0 (some (.int r.2)) 0 0 := by
  refine vM.of (by decide) rfl (Nat.le_of_ble_eq_true rfl) ?_
  intro p e s m args below meth c D dA C hin2
  refine (?_ : vO p l e (vR 2 0 0) s m args below meth c D dA (vA h0 z0) 4 False (fun r : (Hp × Int32) => MQ below (vQc False h0 z0 D dA r.1 z0 (some (.int r.2))) args s 0 0 (vAr False h0 z0)) 0 0 h0 z0 [(0, .ref a0), (1, .int p1), (2, .int p2), (3, .int p3)] 0 [] (FA_restore h0 a0 p1 p2 p3)) r hr
  obtain ⟨Q, hQ⟩ : ∃ Q : (Hp × Int32) → State → Prop, Q = (fun r : (Hp × Int32) => MQ below (vQc False h0 z0 D dA r.1 z0 (some (.int r.2))) args s 0 0 (vAr False h0 z0)) := ⟨_, rfl⟩
  rw [← hQ]
  unfold FA_restore
  refine v_iload_n C dA_restore_0 rfl 1 rfl ?_
  refine v_bind fun r1 hr1 => ?_
  refine v_callS0 (N := 1) (As := [.int p1]) (st := []) C (fun _ => trivial) (mA_isSlot l h0 z0 p1 r1 hr1) rfl w_505 w_47 (by decide +kernel) ⟨Nat.le_of_ble_eq_true rfl, Nat.le_of_ble_eq_true rfl⟩ rfl rfl (Nat.le_of_ble_eq_true rfl) ⟨Nat.zero_le _, Nat.zero_le _⟩ w_503 w_504 dA_restore_1 ?_
  refine v_jn (fun (j : Option (Hp × Int32)) => vO p l e (vR 2 0 0) s m args below meth c D dA (vA h0 z0) 4 False Q 0 0 h0 z0 [] 21 [] j) ?_ (fun j2 Hj2 => ?_)
  · refine v_bipush (v := (-2)) C dA_restore_21 (by decide) ?_
    exact v_iret C dA_restore_23 (by rw [hQ])
  · refine v_if_eq (tgt := 21) C dA_restore_4 (by decide) ?_ ?_
    · refine v_lv (lv' := []) [] rfl ?_
      exact Hj2
    · refine v_iload_n C dA_restore_7 rfl 2 rfl ?_
      refine v_bind fun r3 hr3 => ?_
      refine v_callS0 (N := 1) (As := [.int p2]) (st := []) C (fun _ => trivial) (mA_isEnd l h0 z0 p2 r3 hr3) rfl w_435 w_47 (by decide +kernel) ⟨Nat.le_of_ble_eq_true rfl, Nat.le_of_ble_eq_true rfl⟩ rfl rfl (Nat.le_of_ble_eq_true rfl) ⟨Nat.zero_le _, Nat.zero_le _⟩ w_433 w_434 dA_restore_8 ?_
      refine v_if_eq (tgt := 21) C dA_restore_11 (by decide) ?_ ?_
      · refine v_lv (lv' := []) [] rfl ?_
        exact Hj2
      · refine v_iload_n C dA_restore_14 rfl 3 rfl ?_
        refine v_bind fun r4 hr4 => ?_
        refine v_callS0 (N := 1) (As := [.int p3]) (st := []) C (fun _ => trivial) (mA_isTree l h0 z0 p3 r4 hr4) rfl w_244 w_47 (by decide +kernel) ⟨Nat.le_of_ble_eq_true rfl, Nat.le_of_ble_eq_true rfl⟩ rfl rfl (Nat.le_of_ble_eq_true rfl) ⟨Nat.zero_le _, Nat.zero_le _⟩ w_242 w_243 dA_restore_15 ?_
        refine v_if_ne (tgt := 24) C dA_restore_18 (by decide) ?_ ?_
        · refine v_aload_n C dA_restore_24 rfl 0 rfl ?_
          refine v_getR C v_cl4 (by decide) in_4 rfl w_206 dA_restore_25 (fun a5 => ?_)
          refine v_iload_n C dA_restore_28 rfl 1 rfl ?_
          refine v_zald C rfl dA_restore_29 (fun x6 => ?_)
          refine v_if_ne (tgt := 36) C dA_restore_30 (by decide) ?_ ?_
          · refine v_aload_n C dA_restore_36 rfl 0 rfl ?_
            refine v_iload_n C dA_restore_37 rfl 2 rfl ?_
            refine v_iload_n C dA_restore_38 rfl 3 rfl ?_
            refine v_gd fun hO7 => ?_
            refine v_bind fun r8 hr8 => ?_
            refine v_callV0 (N := 2) (As := [.int p2, .int p3]) (st := []) C (fun _ => trivial) (mA_treeOf l h0 z0 a0 p2 p3 r8 hr8) rfl w_439 w_47 (by decide +kernel) ⟨Nat.le_of_ble_eq_true rfl, Nat.le_of_ble_eq_true rfl⟩ rfl rfl (Nat.le_of_ble_eq_true rfl) ⟨Nat.zero_le _, Nat.zero_le _⟩ w_436 w_438 w_18 v_cl4 rfl hO7 dA_restore_39 ?_
            refine v_aload_n C dA_restore_42 rfl 0 rfl ?_
            refine v_getR C v_cl4 (by decide) in_4 rfl w_205 dA_restore_43 (fun a9 => ?_)
            refine v_iload_n C dA_restore_46 rfl 1 rfl ?_
            refine v_aald C rfl dA_restore_47 (fun a10 => ?_)
            refine v_gd fun hO11 => ?_
            refine v_bind fun r12 hr12 => ?_
            refine v_callV0 (N := 1) (As := [.ref a10]) (st := []) C (fun f => f.elim) (mT_becomeLike l h0 z0 r8 a10 r12 hr12) rfl w_509 w_52 (by decide +kernel) ⟨Nat.le_of_ble_eq_true rfl, Nat.le_of_ble_eq_true rfl⟩ rfl rfl (Nat.le_of_ble_eq_true rfl) ⟨Nat.zero_le _, Nat.zero_le _⟩ w_506 w_507 w_508 v_cl3 rfl hO11 dA_restore_48 ?_
            refine v_iload_n C dA_restore_51 rfl 2 rfl ?_
            refine v_iconst (v := 1) C dA_restore_52 (by decide) ?_
            refine v_jn (fun (j : Hp → Option (Hp × Int32)) => ∀ (h13 : Hp), vO p l e (vR 2 0 0) s m args below meth c D dA (vA h0 z0) 4 False Q 0 0 h13 z0 [(0, .ref a0), (1, .int p1)] 64 [] (j h13)) ?_ (fun j14 Hj14 => ?_)
            · intro h13
              refine v_aload_n C dA_restore_64 rfl 0 rfl ?_
              refine v_getR C v_cl4 (by decide) in_4 rfl w_205 dA_restore_65 (fun a15 => ?_)
              refine v_iload_n C dA_restore_68 rfl 1 rfl ?_
              refine v_aald C rfl dA_restore_69 (fun a16 => ?_)
              refine v_getIN C v_cl3 (by decide) in_3 rfl (nf_0 C.2.2.2.2.2.2.2.2.2) dA_restore_70 (fun x17 => ?_)
              exact v_iret C dA_restore_73 (by rw [hQ])
            · refine v_icmp_ne (tgt := 64) C dA_restore_53 (by decide) ?_ ?_
              · refine v_lv (lv' := [(0, .ref a0), (1, .int p1)]) [0, 1] rfl ?_
                exact Hj14 r12
              · refine v_aload_n C dA_restore_56 rfl 0 rfl ?_
                refine v_getR C v_cl4 (by decide) in_4 rfl w_212 dA_restore_57 (fun a18 => ?_)
                refine v_iload_n C dA_restore_60 rfl 3 rfl ?_
                refine v_gd fun hO19 => ?_
                refine v_bind fun r20 hr20 => ?_
                refine v_callV0 (N := 1) (As := [.int p3]) (st := []) C (fun f => f.elim) (mR_leaveCodeOf l r12 z0 a18 p3 r20 hr20) rfl w_256 w_48 (by decide +kernel) ⟨Nat.le_of_ble_eq_true rfl, Nat.le_of_ble_eq_true rfl⟩ rfl rfl (Nat.le_of_ble_eq_true rfl) ⟨Nat.zero_le _, Nat.zero_le _⟩ w_253 w_254 w_255 v_cl2 rfl hO19 dA_restore_61 ?_
                refine v_lv (lv' := [(0, .ref a0), (1, .int p1)]) [0, 1] rfl ?_
                exact Hj14 r20
          · refine v_bipush (v := (-4)) C dA_restore_33 (by decide) ?_
            exact v_iret C dA_restore_35 (by rw [hQ])
        · refine v_lv (lv' := []) [] rfl ?_
          exact Hj2
theorem dM_begin_0 : decode prog_7_method_5_code 0 = .ok (.aload_n 0, 1) := by decide +kernel
theorem dM_begin_1 : decode prog_7_method_5_code 1 = .ok (.getfield 7, 3) := by decide +kernel
theorem dM_begin_4 : decode prog_7_method_5_code 4 = .ok (.iload_n 1, 1) := by decide +kernel
theorem dM_begin_5 : decode prog_7_method_5_code 5 = .ok (.iload_n 2, 1) := by decide +kernel
theorem dM_begin_6 : decode prog_7_method_5_code 6 = .ok (.iastore, 1) := by decide +kernel
theorem dM_begin_7 : decode prog_7_method_5_code 7 = .ok (.aload_n 0, 1) := by decide +kernel
theorem dM_begin_8 : decode prog_7_method_5_code 8 = .ok (.getfield 16, 3) := by decide +kernel
theorem dM_begin_11 : decode prog_7_method_5_code 11 = .ok (.iload_n 1, 1) := by decide +kernel
theorem dM_begin_12 : decode prog_7_method_5_code 12 = .ok (.iconst 0, 1) := by decide +kernel
theorem dM_begin_13 : decode prog_7_method_5_code 13 = .ok (.iastore, 1) := by decide +kernel
theorem dM_begin_14 : decode prog_7_method_5_code 14 = .ok (.iload_n 2, 1) := by decide +kernel
theorem dM_begin_15 : decode prog_7_method_5_code 15 = .ok (.ifCond .ne 45, 3) := by decide +kernel
theorem dM_begin_18 : decode prog_7_method_5_code 18 = .ok (.aload_n 0, 1) := by decide +kernel
theorem dM_begin_19 : decode prog_7_method_5_code 19 = .ok (.getfield 13, 3) := by decide +kernel
theorem dM_begin_22 : decode prog_7_method_5_code 22 = .ok (.iload_n 1, 1) := by decide +kernel
theorem dM_begin_23 : decode prog_7_method_5_code 23 = .ok (.iconst 1, 1) := by decide +kernel
theorem dM_begin_24 : decode prog_7_method_5_code 24 = .ok (.iastore, 1) := by decide +kernel
theorem dM_begin_25 : decode prog_7_method_5_code 25 = .ok (.aload_n 0, 1) := by decide +kernel
theorem dM_begin_26 : decode prog_7_method_5_code 26 = .ok (.getfield 23, 3) := by decide +kernel
theorem dM_begin_29 : decode prog_7_method_5_code 29 = .ok (.sipush 129, 3) := by decide +kernel
theorem dM_begin_32 : decode prog_7_method_5_code 32 = .ok (.iload_n 1, 1) := by decide +kernel
theorem dM_begin_33 : decode prog_7_method_5_code 33 = .ok (.imul, 1) := by decide +kernel
theorem dM_begin_34 : decode prog_7_method_5_code 34 = .ok (.iconst 0, 1) := by decide +kernel
theorem dM_begin_35 : decode prog_7_method_5_code 35 = .ok (.iastore, 1) := by decide +kernel
theorem dM_begin_36 : decode prog_7_method_5_code 36 = .ok (.aload_n 0, 1) := by decide +kernel
theorem dM_begin_37 : decode prog_7_method_5_code 37 = .ok (.getfield 26, 3) := by decide +kernel
theorem dM_begin_40 : decode prog_7_method_5_code 40 = .ok (.sipush 129, 3) := by decide +kernel
theorem dM_begin_43 : decode prog_7_method_5_code 43 = .ok (.iload_n 1, 1) := by decide +kernel
theorem dM_begin_44 : decode prog_7_method_5_code 44 = .ok (.imul, 1) := by decide +kernel
theorem dM_begin_45 : decode prog_7_method_5_code 45 = .ok (.iconst 0, 1) := by decide +kernel
theorem dM_begin_46 : decode prog_7_method_5_code 46 = .ok (.iastore, 1) := by decide +kernel
theorem dM_begin_47 : decode prog_7_method_5_code 47 = .ok (.aload_n 0, 1) := by decide +kernel
theorem dM_begin_48 : decode prog_7_method_5_code 48 = .ok (.getfield 29, 3) := by decide +kernel
theorem dM_begin_51 : decode prog_7_method_5_code 51 = .ok (.sipush 129, 3) := by decide +kernel
theorem dM_begin_54 : decode prog_7_method_5_code 54 = .ok (.iload_n 1, 1) := by decide +kernel
theorem dM_begin_55 : decode prog_7_method_5_code 55 = .ok (.imul, 1) := by decide +kernel
theorem dM_begin_56 : decode prog_7_method_5_code 56 = .ok (.bipush (-2), 2) := by decide +kernel
theorem dM_begin_58 : decode prog_7_method_5_code 58 = .ok (.iastore, 1) := by decide +kernel
theorem dM_begin_59 : decode prog_7_method_5_code 59 = .ok (.return_, 1) := by decide +kernel
theorem dM_begin_60 : decode prog_7_method_5_code 60 = .ok (.aload_n 0, 1) := by decide +kernel
theorem dM_begin_61 : decode prog_7_method_5_code 61 = .ok (.getfield 13, 3) := by decide +kernel
theorem dM_begin_64 : decode prog_7_method_5_code 64 = .ok (.iload_n 1, 1) := by decide +kernel
theorem dM_begin_65 : decode prog_7_method_5_code 65 = .ok (.iconst 2, 1) := by decide +kernel
theorem dM_begin_66 : decode prog_7_method_5_code 66 = .ok (.aload_n 0, 1) := by decide +kernel
theorem dM_begin_67 : decode prog_7_method_5_code 67 = .ok (.getfield 56, 3) := by decide +kernel
theorem dM_begin_70 : decode prog_7_method_5_code 70 = .ok (.imul, 1) := by decide +kernel
theorem dM_begin_71 : decode prog_7_method_5_code 71 = .ok (.iconst 1, 1) := by decide +kernel
theorem dM_begin_72 : decode prog_7_method_5_code 72 = .ok (.isub, 1) := by decide +kernel
theorem dM_begin_73 : decode prog_7_method_5_code 73 = .ok (.iastore, 1) := by decide +kernel
theorem dM_begin_74 : decode prog_7_method_5_code 74 = .ok (.iconst 0, 1) := by decide +kernel
theorem dM_begin_75 : decode prog_7_method_5_code 75 = .ok (.istore_n 3, 1) := by decide +kernel
theorem dM_begin_76 : decode prog_7_method_5_code 76 = .ok (.iload_n 3, 1) := by decide +kernel
theorem dM_begin_77 : decode prog_7_method_5_code 77 = .ok (.iconst 2, 1) := by decide +kernel
theorem dM_begin_78 : decode prog_7_method_5_code 78 = .ok (.aload_n 0, 1) := by decide +kernel
theorem dM_begin_79 : decode prog_7_method_5_code 79 = .ok (.getfield 56, 3) := by decide +kernel
theorem dM_begin_82 : decode prog_7_method_5_code 82 = .ok (.imul, 1) := by decide +kernel
theorem dM_begin_83 : decode prog_7_method_5_code 83 = .ok (.iconst 1, 1) := by decide +kernel
theorem dM_begin_84 : decode prog_7_method_5_code 84 = .ok (.isub, 1) := by decide +kernel
theorem dM_begin_85 : decode prog_7_method_5_code 85 = .ok (.if_icmp .ge 61, 3) := by decide +kernel
theorem dM_begin_88 : decode prog_7_method_5_code 88 = .ok (.aload_n 0, 1) := by decide +kernel
theorem dM_begin_89 : decode prog_7_method_5_code 89 = .ok (.getfield 35, 3) := by decide +kernel
theorem dM_begin_92 : decode prog_7_method_5_code 92 = .ok (.sipush 129, 3) := by decide +kernel
theorem dM_begin_95 : decode prog_7_method_5_code 95 = .ok (.iload_n 1, 1) := by decide +kernel
theorem dM_begin_96 : decode prog_7_method_5_code 96 = .ok (.imul, 1) := by decide +kernel
theorem dM_begin_97 : decode prog_7_method_5_code 97 = .ok (.iload_n 3, 1) := by decide +kernel
theorem dM_begin_98 : decode prog_7_method_5_code 98 = .ok (.iadd, 1) := by decide +kernel
theorem dM_begin_99 : decode prog_7_method_5_code 99 = .ok (.iload_n 3, 1) := by decide +kernel
theorem dM_begin_100 : decode prog_7_method_5_code 100 = .ok (.ifCond .ne 7, 3) := by decide +kernel
theorem dM_begin_103 : decode prog_7_method_5_code 103 = .ok (.iconst (-1), 1) := by decide +kernel
theorem dM_begin_104 : decode prog_7_method_5_code 104 = .ok (.goto 8, 3) := by decide +kernel
theorem dM_begin_107 : decode prog_7_method_5_code 107 = .ok (.iload_n 3, 1) := by decide +kernel
theorem dM_begin_108 : decode prog_7_method_5_code 108 = .ok (.iconst 1, 1) := by decide +kernel
theorem dM_begin_109 : decode prog_7_method_5_code 109 = .ok (.isub, 1) := by decide +kernel
theorem dM_begin_110 : decode prog_7_method_5_code 110 = .ok (.iconst 2, 1) := by decide +kernel
theorem dM_begin_111 : decode prog_7_method_5_code 111 = .ok (.idiv, 1) := by decide +kernel
theorem dM_begin_112 : decode prog_7_method_5_code 112 = .ok (.iastore, 1) := by decide +kernel
theorem dM_begin_113 : decode prog_7_method_5_code 113 = .ok (.aload_n 0, 1) := by decide +kernel
theorem dM_begin_114 : decode prog_7_method_5_code 114 = .ok (.getfield 38, 3) := by decide +kernel
theorem dM_begin_117 : decode prog_7_method_5_code 117 = .ok (.sipush 129, 3) := by decide +kernel
theorem dM_begin_120 : decode prog_7_method_5_code 120 = .ok (.iload_n 1, 1) := by decide +kernel
theorem dM_begin_121 : decode prog_7_method_5_code 121 = .ok (.imul, 1) := by decide +kernel
theorem dM_begin_122 : decode prog_7_method_5_code 122 = .ok (.iload_n 3, 1) := by decide +kernel
theorem dM_begin_123 : decode prog_7_method_5_code 123 = .ok (.iadd, 1) := by decide +kernel
theorem dM_begin_124 : decode prog_7_method_5_code 124 = .ok (.iload_n 3, 1) := by decide +kernel
theorem dM_begin_125 : decode prog_7_method_5_code 125 = .ok (.ifCond .le 13, 3) := by decide +kernel
theorem dM_begin_128 : decode prog_7_method_5_code 128 = .ok (.iload_n 3, 1) := by decide +kernel
theorem dM_begin_129 : decode prog_7_method_5_code 129 = .ok (.iconst 2, 1) := by decide +kernel
theorem dM_begin_130 : decode prog_7_method_5_code 130 = .ok (.irem, 1) := by decide +kernel
theorem dM_begin_131 : decode prog_7_method_5_code 131 = .ok (.ifCond .ne 7, 3) := by decide +kernel
theorem dM_begin_134 : decode prog_7_method_5_code 134 = .ok (.iconst 1, 1) := by decide +kernel
theorem dM_begin_135 : decode prog_7_method_5_code 135 = .ok (.goto 4, 3) := by decide +kernel
theorem dM_begin_138 : decode prog_7_method_5_code 138 = .ok (.iconst 0, 1) := by decide +kernel
theorem dM_begin_139 : decode prog_7_method_5_code 139 = .ok (.bastore, 1) := by decide +kernel
theorem dM_begin_140 : decode prog_7_method_5_code 140 = .ok (.iinc 3 1, 3) := by decide +kernel
theorem dM_begin_143 : decode prog_7_method_5_code 143 = .ok (.goto (-67), 3) := by decide +kernel
theorem dM_begin_146 : decode prog_7_method_5_code 146 = .ok (.return_, 1) := by decide +kernel
def LM_begin_76 (a0 : Nat) (p1 : Int32) (K9 : Hp → Option Hp) (rec12 : Hp → Int32 → Option Hp) (h10 : Hp) (x11 : Int32) : Option Hp :=
  gI h10 a0 5 0 (fun x13 =>
  if ((2 * x13) - 1) ≤ x11 then
    (K9 h10)
  else
    (gR h10 a0 5 11 (fun a14 =>
    jn (fun (y15 : Int32) (y16 : Int32) (b17 : Nat) =>
    stI h10 b17 0 y16 y15 (fun h19 =>
    gR h19 a0 5 12 (fun a20 =>
    jn (fun (y21 : Int32) (y22 : Int32) (b23 : Nat) =>
    stI h19 b23 1 y22 (vp_nar .boolean y21) (fun h25 =>
    rec12 h25 (x11 + 1)))
    (fun (j24 : Int32 → Int32 → Nat → Option Hp) =>
    jn (fun (y26 : Int32) (b27 : Nat) =>
    j24 0 y26 b27)
    (fun (j28 : Int32 → Nat → Option Hp) =>
    if x11 ≤ 0 then
      (j28 ((129 * p1) + x11) a20)
    else
      (gd (¬ 2 = 0) (
      if (x11 - x11 / 2 * 2) = 0 then
        (j24 1 ((129 * p1) + x11) a20)
      else
        (j28 ((129 * p1) + x11) a20))))))))
    (fun (j18 : Int32 → Int32 → Nat → Option Hp) =>
    if x11 = 0 then
      (j18 (-1) ((129 * p1) + x11) a14)
    else
      (gd (¬ 2 = 0) (
      j18 ((x11 - 1) / 2) ((129 * p1) + x11) a14))))))
def FM_begin (h0 : Hp) (a0 : Nat) (p1 : Int32) (p2 : Int32) : Option Hp :=
  gR h0 a0 5 3 (fun a1 =>
  stI h0 a1 0 p1 p2 (fun h2 =>
  gR h2 a0 5 5 (fun a3 =>
  stI h2 a3 0 p1 0 (fun h4 =>
  if p2 = 0 then
    (gR h4 a0 5 4 (fun a29 =>
    stI h4 a29 0 p1 1 (fun h30 =>
    gR h30 a0 5 7 (fun a31 =>
    stI h30 a31 0 (129 * p1) 0 (fun h32 =>
    gR h32 a0 5 8 (fun a33 =>
    stI h32 a33 0 (129 * p1) 0 (fun h34 =>
    gR h34 a0 5 9 (fun a35 =>
    stI h34 a35 0 (129 * p1) (-2) (fun h36 =>
    some h36)))))))))
  else
    (gR h4 a0 5 4 (fun a5 =>
    gI h4 a0 5 0 (fun x6 =>
    stI h4 a5 0 p1 ((2 * x6) - 1) (fun h7 =>
    jn (fun (h8 : Hp) =>
    some h8)
    (fun (K9 : Hp → Option Hp) =>
    lpG (fun _ _ => none) fu (LM_begin_76 a0 p1 K9) h7 0)))))))))
set_option maxRecDepth 100000 in
set_option maxHeartbeats 4000000 in
theorem mM_begin (l : Launch) (h0 : Hp) (z0 : Nat) (a0 : Nat) (p1 : Int32) (p2 : Int32) (r : Hp) (hr : FM_begin h0 a0 p1 p2 = some r) : vM False l yM_begin (Cond.code yM_begin prog_7_method_5_code 4 none :: gW) 0 [.ref a0, .int p1, .int p2] h0 z0 r z0 none 0 0 := by
  refine vM.of (by decide) rfl (Nat.le_of_ble_eq_true rfl) ?_
  intro p e s m args below meth c D dA C hin2
  refine (?_ : vO p l e (vR 0 0 0) s m args below meth c D dA (vA h0 z0) 4 False (fun r : Hp => MQ below (vQc False h0 z0 D dA r z0 none) args s 0 0 (vAr False h0 z0)) 0 0 h0 z0 [(0, .ref a0), (1, .int p1), (2, .int p2)] 0 [] (FM_begin h0 a0 p1 p2)) r hr
  obtain ⟨Q, hQ⟩ : ∃ Q : Hp → State → Prop, Q = (fun r : Hp => MQ below (vQc False h0 z0 D dA r z0 none) args s 0 0 (vAr False h0 z0)) := ⟨_, rfl⟩
  rw [← hQ]
  unfold FM_begin
  refine v_aload_n C dM_begin_0 rfl 0 rfl ?_
  refine v_getR C v_cl5 (by decide) in_5 rfl w_612 dM_begin_1 (fun a1 => ?_)
  refine v_iload_n C dM_begin_4 rfl 1 rfl ?_
  refine v_iload_n C dM_begin_5 rfl 2 rfl ?_
  refine v_iast C rfl dM_begin_6 (fun h2 => ?_)
  refine v_aload_n C dM_begin_7 rfl 0 rfl ?_
  refine v_getR C v_cl5 (by decide) in_5 rfl w_614 dM_begin_8 (fun a3 => ?_)
  refine v_iload_n C dM_begin_11 rfl 1 rfl ?_
  refine v_iconst (v := 0) C dM_begin_12 (by decide) ?_
  refine v_iast C rfl dM_begin_13 (fun h4 => ?_)
  refine v_iload_n C dM_begin_14 rfl 2 rfl ?_
  refine v_if_ne (tgt := 60) C dM_begin_15 (by decide) ?_ ?_
  · refine v_aload_n C dM_begin_60 rfl 0 rfl ?_
    refine v_getR C v_cl5 (by decide) in_5 rfl w_613 dM_begin_61 (fun a5 => ?_)
    refine v_iload_n C dM_begin_64 rfl 1 rfl ?_
    refine v_iconst (v := 2) C dM_begin_65 (by decide) ?_
    refine v_aload_n C dM_begin_66 rfl 0 rfl ?_
    refine v_getI C v_cl5 (by decide) in_5 rfl w_609 dM_begin_67 (fun x6 => ?_)
    refine v_imul C dM_begin_70 ?_
    refine v_iconst (v := 1) C dM_begin_71 (by decide) ?_
    refine v_isub C dM_begin_72 ?_
    refine v_iast C rfl dM_begin_73 (fun h7 => ?_)
    refine v_iconst (v := 0) C dM_begin_74 (by decide) ?_
    refine v_istore_n (lv' := [(0, .ref a0), (1, .int p1), (3, .int 0)]) C dM_begin_75 rfl (by decide) [1, 2, 0] rfl ?_
    refine v_jn (fun (j : Hp → Option Hp) => ∀ (h8 : Hp), vO p l e (vR 0 0 0) s m args below meth c D dA (vA h0 z0) 4 False Q 0 0 h8 z0 [] 146 [] (j h8)) ?_ (fun K9 HK9 => ?_)
    · intro h8
      exact v_vret C dM_begin_146 (by rw [hQ])
    · refine lpG_ind (bot := (fun _ _ => none)) (B := LM_begin_76 a0 p1 K9) (fun (r : Hp → Int32 → Option Hp) => ∀ (h10 : Hp), ∀ (x11 : Int32), vO p l e (vR 0 0 0) s m args below meth c D dA (vA h0 z0) 4 False Q 0 0 h10 z0 [(0, .ref a0), (1, .int p1), (3, .int x11)] 76 [] (r h10 x11)) ?_ ?_ fu h7 0
      · intro h10 x11
        exact v_none
      · intro rec12 Hrec12 h10 x11
        unfold LM_begin_76
        refine v_iload_n C dM_begin_76 rfl 2 rfl ?_
        refine v_iconst (v := 2) C dM_begin_77 (by decide) ?_
        refine v_aload_n C dM_begin_78 rfl 0 rfl ?_
        refine v_getI C v_cl5 (by decide) in_5 rfl w_609 dM_begin_79 (fun x13 => ?_)
        refine v_imul C dM_begin_82 ?_
        refine v_iconst (v := 1) C dM_begin_83 (by decide) ?_
        refine v_isub C dM_begin_84 ?_
        refine v_icmp_ge (tgt := 146) C dM_begin_85 (by decide) ?_ ?_
        · refine v_lv (lv' := []) [] rfl ?_
          exact HK9 h10
        · refine v_aload_n C dM_begin_88 rfl 0 rfl ?_
          refine v_getR C v_cl5 (by decide) in_5 rfl w_620 dM_begin_89 (fun a14 => ?_)
          refine v_sipush (v := 129) C dM_begin_92 (by decide) ?_
          refine v_iload_n C dM_begin_95 rfl 1 rfl ?_
          refine v_imul C dM_begin_96 ?_
          refine v_iload_n C dM_begin_97 rfl 2 rfl ?_
          refine v_iadd C dM_begin_98 ?_
          refine v_iload_n C dM_begin_99 rfl 2 rfl ?_
          refine v_jn (fun (j : Int32 → Int32 → Nat → Option Hp) => ∀ (y15 : Int32), ∀ (y16 : Int32), ∀ (b17 : Nat), vO p l e (vR 0 0 0) s m args below meth c D dA (vA h0 z0) 4 False Q 0 0 h10 z0 [(0, .ref a0), (1, .int p1), (3, .int x11)] 112 [.int y15, .int y16, .ref b17] (j y15 y16 b17)) ?_ (fun j18 Hj18 => ?_)
          · intro y15 y16 b17
            refine v_iast C rfl dM_begin_112 (fun h19 => ?_)
            refine v_aload_n C dM_begin_113 rfl 0 rfl ?_
            refine v_getR C v_cl5 (by decide) in_5 rfl w_621 dM_begin_114 (fun a20 => ?_)
            refine v_sipush (v := 129) C dM_begin_117 (by decide) ?_
            refine v_iload_n C dM_begin_120 rfl 1 rfl ?_
            refine v_imul C dM_begin_121 ?_
            refine v_iload_n C dM_begin_122 rfl 2 rfl ?_
            refine v_iadd C dM_begin_123 ?_
            refine v_iload_n C dM_begin_124 rfl 2 rfl ?_
            refine v_jn (fun (j : Int32 → Int32 → Nat → Option Hp) => ∀ (y21 : Int32), ∀ (y22 : Int32), ∀ (b23 : Nat), vO p l e (vR 0 0 0) s m args below meth c D dA (vA h0 z0) 4 False Q 0 0 h19 z0 [(0, .ref a0), (1, .int p1), (3, .int x11)] 139 [.int y21, .int y22, .ref b23] (j y21 y22 b23)) ?_ (fun j24 Hj24 => ?_)
            · intro y21 y22 b23
              refine v_zast C rfl dM_begin_139 (fun h25 => ?_)
              refine v_iinc (v := (x11 + 1)) (lv' := [(0, .ref a0), (1, .int p1), (3, .int (x11 + 1))]) C dM_begin_140 2 rfl rfl (by decide) [1, 2, 0] rfl ?_
              refine v_goto (tgt := 76) C dM_begin_143 (by decide) ?_
              exact Hrec12 h25 (x11 + 1)
            · refine v_jn (fun (j : Int32 → Nat → Option Hp) => ∀ (y26 : Int32), ∀ (b27 : Nat), vO p l e (vR 0 0 0) s m args below meth c D dA (vA h0 z0) 4 False Q 0 0 h19 z0 [(0, .ref a0), (1, .int p1), (3, .int x11)] 138 [.int y26, .ref b27] (j y26 b27)) ?_ (fun j28 Hj28 => ?_)
              · intro y26 b27
                refine v_iconst (v := 0) C dM_begin_138 (by decide) ?_
                exact Hj24 0 y26 b27
              · refine v_if_le (tgt := 138) C dM_begin_125 (by decide) ?_ ?_
                · exact Hj28 ((129 * p1) + x11) a20
                · refine v_iload_n C dM_begin_128 rfl 2 rfl ?_
                  refine v_iconst (v := 2) C dM_begin_129 (by decide) ?_
                  refine v_irem C dM_begin_130 ?_
                  refine v_if_ne (tgt := 138) C dM_begin_131 (by decide) ?_ ?_
                  · exact Hj28 ((129 * p1) + x11) a20
                  · refine v_iconst (v := 1) C dM_begin_134 (by decide) ?_
                    refine v_goto (tgt := 139) C dM_begin_135 (by decide) ?_
                    exact Hj24 1 ((129 * p1) + x11) a20
          · refine v_if_ne (tgt := 107) C dM_begin_100 (by decide) ?_ ?_
            · refine v_iload_n C dM_begin_107 rfl 2 rfl ?_
              refine v_iconst (v := 1) C dM_begin_108 (by decide) ?_
              refine v_isub C dM_begin_109 ?_
              refine v_iconst (v := 2) C dM_begin_110 (by decide) ?_
              refine v_idiv C dM_begin_111 ?_
              exact Hj18 ((x11 - 1) / 2) ((129 * p1) + x11) a14
            · refine v_iconst (v := (-1)) C dM_begin_103 (by decide) ?_
              refine v_goto (tgt := 112) C dM_begin_104 (by decide) ?_
              exact Hj18 (-1) ((129 * p1) + x11) a14
  · refine v_aload_n C dM_begin_18 rfl 0 rfl ?_
    refine v_getR C v_cl5 (by decide) in_5 rfl w_613 dM_begin_19 (fun a29 => ?_)
    refine v_iload_n C dM_begin_22 rfl 1 rfl ?_
    refine v_iconst (v := 1) C dM_begin_23 (by decide) ?_
    refine v_iast C rfl dM_begin_24 (fun h30 => ?_)
    refine v_aload_n C dM_begin_25 rfl 0 rfl ?_
    refine v_getR C v_cl5 (by decide) in_5 rfl w_616 dM_begin_26 (fun a31 => ?_)
    refine v_sipush (v := 129) C dM_begin_29 (by decide) ?_
    refine v_iload_n C dM_begin_32 rfl 1 rfl ?_
    refine v_imul C dM_begin_33 ?_
    refine v_iconst (v := 0) C dM_begin_34 (by decide) ?_
    refine v_iast C rfl dM_begin_35 (fun h32 => ?_)
    refine v_aload_n C dM_begin_36 rfl 0 rfl ?_
    refine v_getR C v_cl5 (by decide) in_5 rfl w_617 dM_begin_37 (fun a33 => ?_)
    refine v_sipush (v := 129) C dM_begin_40 (by decide) ?_
    refine v_iload_n C dM_begin_43 rfl 1 rfl ?_
    refine v_imul C dM_begin_44 ?_
    refine v_iconst (v := 0) C dM_begin_45 (by decide) ?_
    refine v_iast C rfl dM_begin_46 (fun h34 => ?_)
    refine v_aload_n C dM_begin_47 rfl 0 rfl ?_
    refine v_getR C v_cl5 (by decide) in_5 rfl w_618 dM_begin_48 (fun a35 => ?_)
    refine v_sipush (v := 129) C dM_begin_51 (by decide) ?_
    refine v_iload_n C dM_begin_54 rfl 1 rfl ?_
    refine v_imul C dM_begin_55 ?_
    refine v_bipush (v := (-2)) C dM_begin_56 (by decide) ?_
    refine v_iast C rfl dM_begin_58 (fun h36 => ?_)
    exact v_vret C dM_begin_59 (by rw [hQ])
theorem dM_init_0 : decode prog_7_method_1_code 0 = .ok (.aload_n 0, 1) := by decide +kernel
theorem dM_init_1 : decode prog_7_method_1_code 1 = .ok (.invokespecial 1, 3) := by decide +kernel
theorem dM_init_4 : decode prog_7_method_1_code 4 = .ok (.aload_n 0, 1) := by decide +kernel
theorem dM_init_5 : decode prog_7_method_1_code 5 = .ok (.bipush 12, 2) := by decide +kernel
theorem dM_init_7 : decode prog_7_method_1_code 7 = .ok (.newarray .int, 2) := by decide +kernel
theorem dM_init_9 : decode prog_7_method_1_code 9 = .ok (.putfield 7, 3) := by decide +kernel
theorem dM_init_12 : decode prog_7_method_1_code 12 = .ok (.aload_n 0, 1) := by decide +kernel
theorem dM_init_13 : decode prog_7_method_1_code 13 = .ok (.bipush 12, 2) := by decide +kernel
theorem dM_init_15 : decode prog_7_method_1_code 15 = .ok (.newarray .int, 2) := by decide +kernel
theorem dM_init_17 : decode prog_7_method_1_code 17 = .ok (.putfield 13, 3) := by decide +kernel
theorem dM_init_20 : decode prog_7_method_1_code 20 = .ok (.aload_n 0, 1) := by decide +kernel
theorem dM_init_21 : decode prog_7_method_1_code 21 = .ok (.bipush 12, 2) := by decide +kernel
theorem dM_init_23 : decode prog_7_method_1_code 23 = .ok (.newarray .int, 2) := by decide +kernel
theorem dM_init_25 : decode prog_7_method_1_code 25 = .ok (.putfield 16, 3) := by decide +kernel
theorem dM_init_28 : decode prog_7_method_1_code 28 = .ok (.aload_n 0, 1) := by decide +kernel
theorem dM_init_29 : decode prog_7_method_1_code 29 = .ok (.iconst 4, 1) := by decide +kernel
theorem dM_init_30 : decode prog_7_method_1_code 30 = .ok (.newarray .boolean, 2) := by decide +kernel
theorem dM_init_32 : decode prog_7_method_1_code 32 = .ok (.putfield 19, 3) := by decide +kernel
theorem dM_init_35 : decode prog_7_method_1_code 35 = .ok (.aload_n 0, 1) := by decide +kernel
theorem dM_init_36 : decode prog_7_method_1_code 36 = .ok (.sipush 1548, 3) := by decide +kernel
theorem dM_init_39 : decode prog_7_method_1_code 39 = .ok (.newarray .int, 2) := by decide +kernel
theorem dM_init_41 : decode prog_7_method_1_code 41 = .ok (.putfield 23, 3) := by decide +kernel
theorem dM_init_44 : decode prog_7_method_1_code 44 = .ok (.aload_n 0, 1) := by decide +kernel
theorem dM_init_45 : decode prog_7_method_1_code 45 = .ok (.sipush 1548, 3) := by decide +kernel
theorem dM_init_48 : decode prog_7_method_1_code 48 = .ok (.newarray .int, 2) := by decide +kernel
theorem dM_init_50 : decode prog_7_method_1_code 50 = .ok (.putfield 26, 3) := by decide +kernel
theorem dM_init_53 : decode prog_7_method_1_code 53 = .ok (.aload_n 0, 1) := by decide +kernel
theorem dM_init_54 : decode prog_7_method_1_code 54 = .ok (.sipush 1548, 3) := by decide +kernel
theorem dM_init_57 : decode prog_7_method_1_code 57 = .ok (.newarray .int, 2) := by decide +kernel
theorem dM_init_59 : decode prog_7_method_1_code 59 = .ok (.putfield 29, 3) := by decide +kernel
theorem dM_init_62 : decode prog_7_method_1_code 62 = .ok (.aload_n 0, 1) := by decide +kernel
theorem dM_init_63 : decode prog_7_method_1_code 63 = .ok (.sipush 768, 3) := by decide +kernel
theorem dM_init_66 : decode prog_7_method_1_code 66 = .ok (.newarray .int, 2) := by decide +kernel
theorem dM_init_68 : decode prog_7_method_1_code 68 = .ok (.putfield 32, 3) := by decide +kernel
theorem dM_init_71 : decode prog_7_method_1_code 71 = .ok (.aload_n 0, 1) := by decide +kernel
theorem dM_init_72 : decode prog_7_method_1_code 72 = .ok (.sipush 1548, 3) := by decide +kernel
theorem dM_init_75 : decode prog_7_method_1_code 75 = .ok (.newarray .int, 2) := by decide +kernel
theorem dM_init_77 : decode prog_7_method_1_code 77 = .ok (.putfield 35, 3) := by decide +kernel
theorem dM_init_80 : decode prog_7_method_1_code 80 = .ok (.aload_n 0, 1) := by decide +kernel
theorem dM_init_81 : decode prog_7_method_1_code 81 = .ok (.sipush 1548, 3) := by decide +kernel
theorem dM_init_84 : decode prog_7_method_1_code 84 = .ok (.newarray .boolean, 2) := by decide +kernel
theorem dM_init_86 : decode prog_7_method_1_code 86 = .ok (.putfield 38, 3) := by decide +kernel
theorem dM_init_89 : decode prog_7_method_1_code 89 = .ok (.aload_n 0, 1) := by decide +kernel
theorem dM_init_90 : decode prog_7_method_1_code 90 = .ok (.sipush 1000, 3) := by decide +kernel
theorem dM_init_93 : decode prog_7_method_1_code 93 = .ok (.newarray .boolean, 2) := by decide +kernel
theorem dM_init_95 : decode prog_7_method_1_code 95 = .ok (.putfield 41, 3) := by decide +kernel
theorem dM_init_98 : decode prog_7_method_1_code 98 = .ok (.aload_n 0, 1) := by decide +kernel
theorem dM_init_99 : decode prog_7_method_1_code 99 = .ok (.sipush 129, 3) := by decide +kernel
theorem dM_init_102 : decode prog_7_method_1_code 102 = .ok (.newarray .int, 2) := by decide +kernel
theorem dM_init_104 : decode prog_7_method_1_code 104 = .ok (.putfield 44, 3) := by decide +kernel
theorem dM_init_107 : decode prog_7_method_1_code 107 = .ok (.aload_n 0, 1) := by decide +kernel
theorem dM_init_108 : decode prog_7_method_1_code 108 = .ok (.sipush 129, 3) := by decide +kernel
theorem dM_init_111 : decode prog_7_method_1_code 111 = .ok (.newarray .int, 2) := by decide +kernel
theorem dM_init_113 : decode prog_7_method_1_code 113 = .ok (.putfield 47, 3) := by decide +kernel
theorem dM_init_116 : decode prog_7_method_1_code 116 = .ok (.aload_n 0, 1) := by decide +kernel
theorem dM_init_117 : decode prog_7_method_1_code 117 = .ok (.sipush 129, 3) := by decide +kernel
theorem dM_init_120 : decode prog_7_method_1_code 120 = .ok (.newarray .int, 2) := by decide +kernel
theorem dM_init_122 : decode prog_7_method_1_code 122 = .ok (.putfield 50, 3) := by decide +kernel
theorem dM_init_125 : decode prog_7_method_1_code 125 = .ok (.aload_n 0, 1) := by decide +kernel
theorem dM_init_126 : decode prog_7_method_1_code 126 = .ok (.sipush 200, 3) := by decide +kernel
theorem dM_init_129 : decode prog_7_method_1_code 129 = .ok (.newarray .boolean, 2) := by decide +kernel
theorem dM_init_131 : decode prog_7_method_1_code 131 = .ok (.putfield 53, 3) := by decide +kernel
theorem dM_init_134 : decode prog_7_method_1_code 134 = .ok (.aload_n 0, 1) := by decide +kernel
theorem dM_init_135 : decode prog_7_method_1_code 135 = .ok (.iload_n 1, 1) := by decide +kernel
theorem dM_init_136 : decode prog_7_method_1_code 136 = .ok (.iconst 2, 1) := by decide +kernel
theorem dM_init_137 : decode prog_7_method_1_code 137 = .ok (.if_icmp .ge 7, 3) := by decide +kernel
theorem dM_init_140 : decode prog_7_method_1_code 140 = .ok (.iconst 2, 1) := by decide +kernel
theorem dM_init_141 : decode prog_7_method_1_code 141 = .ok (.goto 15, 3) := by decide +kernel
theorem dM_init_144 : decode prog_7_method_1_code 144 = .ok (.iload_n 1, 1) := by decide +kernel
theorem dM_init_145 : decode prog_7_method_1_code 145 = .ok (.bipush 64, 2) := by decide +kernel
theorem dM_init_147 : decode prog_7_method_1_code 147 = .ok (.if_icmp .le 8, 3) := by decide +kernel
theorem dM_init_150 : decode prog_7_method_1_code 150 = .ok (.bipush 64, 2) := by decide +kernel
theorem dM_init_152 : decode prog_7_method_1_code 152 = .ok (.goto 4, 3) := by decide +kernel
theorem dM_init_155 : decode prog_7_method_1_code 155 = .ok (.iload_n 1, 1) := by decide +kernel
theorem dM_init_156 : decode prog_7_method_1_code 156 = .ok (.putfield 56, 3) := by decide +kernel
theorem dM_init_159 : decode prog_7_method_1_code 159 = .ok (.iconst 1, 1) := by decide +kernel
theorem dM_init_160 : decode prog_7_method_1_code 160 = .ok (.istore_n 2, 1) := by decide +kernel
theorem dM_init_161 : decode prog_7_method_1_code 161 = .ok (.iconst 1, 1) := by decide +kernel
theorem dM_init_162 : decode prog_7_method_1_code 162 = .ok (.iload_n 2, 1) := by decide +kernel
theorem dM_init_163 : decode prog_7_method_1_code 163 = .ok (.ishl, 1) := by decide +kernel
theorem dM_init_164 : decode prog_7_method_1_code 164 = .ok (.aload_n 0, 1) := by decide +kernel
theorem dM_init_165 : decode prog_7_method_1_code 165 = .ok (.getfield 56, 3) := by decide +kernel
theorem dM_init_168 : decode prog_7_method_1_code 168 = .ok (.if_icmp .ge 9, 3) := by decide +kernel
theorem dM_init_171 : decode prog_7_method_1_code 171 = .ok (.iinc 2 1, 3) := by decide +kernel
theorem dM_init_174 : decode prog_7_method_1_code 174 = .ok (.goto (-13), 3) := by decide +kernel
theorem dM_init_177 : decode prog_7_method_1_code 177 = .ok (.aload_n 0, 1) := by decide +kernel
theorem dM_init_178 : decode prog_7_method_1_code 178 = .ok (.iload_n 2, 1) := by decide +kernel
theorem dM_init_179 : decode prog_7_method_1_code 179 = .ok (.putfield 60, 3) := by decide +kernel
theorem dM_init_182 : decode prog_7_method_1_code 182 = .ok (.aload_n 0, 1) := by decide +kernel
theorem dM_init_183 : decode prog_7_method_1_code 183 = .ok (.sipush 1000, 3) := by decide +kernel
theorem dM_init_186 : decode prog_7_method_1_code 186 = .ok (.putfield 63, 3) := by decide +kernel
theorem dM_init_189 : decode prog_7_method_1_code 189 = .ok (.aload_n 0, 1) := by decide +kernel
theorem dM_init_190 : decode prog_7_method_1_code 190 = .ok (.iconst (-1), 1) := by decide +kernel
theorem dM_init_191 : decode prog_7_method_1_code 191 = .ok (.putfield 66, 3) := by decide +kernel
theorem dM_init_194 : decode prog_7_method_1_code 194 = .ok (.iconst 0, 1) := by decide +kernel
theorem dM_init_195 : decode prog_7_method_1_code 195 = .ok (.istore_n 3, 1) := by decide +kernel
theorem dM_init_196 : decode prog_7_method_1_code 196 = .ok (.iload_n 3, 1) := by decide +kernel
theorem dM_init_197 : decode prog_7_method_1_code 197 = .ok (.bipush 8, 2) := by decide +kernel
theorem dM_init_199 : decode prog_7_method_1_code 199 = .ok (.if_icmp .ge 15, 3) := by decide +kernel
theorem dM_init_202 : decode prog_7_method_1_code 202 = .ok (.aload_n 0, 1) := by decide +kernel
theorem dM_init_203 : decode prog_7_method_1_code 203 = .ok (.iload_n 3, 1) := by decide +kernel
theorem dM_init_204 : decode prog_7_method_1_code 204 = .ok (.iconst 0, 1) := by decide +kernel
theorem dM_init_205 : decode prog_7_method_1_code 205 = .ok (.invokevirtual 69, 3) := by decide +kernel
theorem dM_init_208 : decode prog_7_method_1_code 208 = .ok (.iinc 3 1, 3) := by decide +kernel
theorem dM_init_211 : decode prog_7_method_1_code 211 = .ok (.goto (-15), 3) := by decide +kernel
theorem dM_init_214 : decode prog_7_method_1_code 214 = .ok (.return_, 1) := by decide +kernel
def LM_init_196 (mc : Nat) (ms : Nat) (a0 : Nat) (K41 : Hp → Option (Hp × Nat)) (rec44 : Hp → Int32 → Option (Hp × Nat)) (h42 : Hp) (x43 : Int32) : Option (Hp × Nat) :=
  if 8 ≤ x43 then
    (K41 h42)
  else
    (gd ((((((((((((((((0 + 1) + 1) + 1) + 1) + 1) + 1) + 1) + 1) + 1) + 1) + 1) + 1) + 1) + 1) + 1) ≤ mc ∧ (((((((((((((((0 + (12 : Int32).toNatClampNeg) + (12 : Int32).toNatClampNeg) + (12 : Int32).toNatClampNeg) + (4 : Int32).toNatClampNeg) + (1548 : Int32).toNatClampNeg) + (1548 : Int32).toNatClampNeg) + (1548 : Int32).toNatClampNeg) + (768 : Int32).toNatClampNeg) + (1548 : Int32).toNatClampNeg) + (1548 : Int32).toNatClampNeg) + (1000 : Int32).toNatClampNeg) + (129 : Int32).toNatClampNeg) + (129 : Int32).toNatClampNeg) + (129 : Int32).toNatClampNeg) + (200 : Int32).toNatClampNeg) ≤ ms) (gd (isO h42 a0 5 = true) ((FM_begin h42 a0 x43 0).bind (fun r46 =>
    rec44 r46 (x43 + 1)))))
def LM_init_161 (a0 : Nat) (h34 : Hp) (K36 : Int32 → Option (Hp × Nat)) (rec48 : Int32 → Option (Hp × Nat)) (x47 : Int32) : Option (Hp × Nat) :=
  gI h34 a0 5 0 (fun x49 =>
  if x49 ≤ (1 <<< (x47 &&& 31)) then
    (K36 x47)
  else
    (rec48 (x47 + 1)))
def FM_init (mc ms : Nat) (h0 : Hp) (z0 : Nat) (a0 : Nat) (p1 : Int32) : Option (Hp × Nat) :=
  
  gd ((0 ≤ (12 : Int32).toInt ∧ (12 : Int32).toInt ≤ 65536) ∧ 0 + 1 ≤ mc ∧ 0 + (12 : Int32).toNatClampNeg ≤ ms) (nw h0 z0 (.inl (0, (12 : Int32).toNatClampNeg, .inl (fun _ => 0))) (fun h1 =>
  pF h1 a0 5 3 (.ref z0) (fun h2 =>
  gd ((0 ≤ (12 : Int32).toInt ∧ (12 : Int32).toInt ≤ 65536) ∧ (0 + 1) + 1 ≤ mc ∧ (0 + (12 : Int32).toNatClampNeg) + (12 : Int32).toNatClampNeg ≤ ms) (nw h2 (z0 + 1) (.inl (0, (12 : Int32).toNatClampNeg, .inl (fun _ => 0))) (fun h3 =>
  pF h3 a0 5 4 (.ref (z0 + 1)) (fun h4 =>
  gd ((0 ≤ (12 : Int32).toInt ∧ (12 : Int32).toInt ≤ 65536) ∧ ((0 + 1) + 1) + 1 ≤ mc ∧ ((0 + (12 : Int32).toNatClampNeg) + (12 : Int32).toNatClampNeg) + (12 : Int32).toNatClampNeg ≤ ms) (nw h4 ((z0 + 1) + 1) (.inl (0, (12 : Int32).toNatClampNeg, .inl (fun _ => 0))) (fun h5 =>
  pF h5 a0 5 5 (.ref ((z0 + 1) + 1)) (fun h6 =>
  gd ((0 ≤ (4 : Int32).toInt ∧ (4 : Int32).toInt ≤ 65536) ∧ (((0 + 1) + 1) + 1) + 1 ≤ mc ∧ (((0 + (12 : Int32).toNatClampNeg) + (12 : Int32).toNatClampNeg) + (12 : Int32).toNatClampNeg) + (4 : Int32).toNatClampNeg ≤ ms) (nw h6 (((z0 + 1) + 1) + 1) (.inl (1, (4 : Int32).toNatClampNeg, .inl (fun _ => 0))) (fun h7 =>
  pF h7 a0 5 6 (.ref (((z0 + 1) + 1) + 1)) (fun h8 =>
  gd ((0 ≤ (1548 : Int32).toInt ∧ (1548 : Int32).toInt ≤ 65536) ∧ ((((0 + 1) + 1) + 1) + 1) + 1 ≤ mc ∧ ((((0 + (12 : Int32).toNatClampNeg) + (12 : Int32).toNatClampNeg) + (12 : Int32).toNatClampNeg) + (4 : Int32).toNatClampNeg) + (1548 : Int32).toNatClampNeg ≤ ms) (nw h8 ((((z0 + 1) + 1) + 1) + 1) (.inl (0, (1548 : Int32).toNatClampNeg, .inl (fun _ => 0))) (fun h9 =>
  pF h9 a0 5 7 (.ref ((((z0 + 1) + 1) + 1) + 1)) (fun h10 =>
  gd ((0 ≤ (1548 : Int32).toInt ∧ (1548 : Int32).toInt ≤ 65536) ∧ (((((0 + 1) + 1) + 1) + 1) + 1) + 1 ≤ mc ∧ (((((0 + (12 : Int32).toNatClampNeg) + (12 : Int32).toNatClampNeg) + (12 : Int32).toNatClampNeg) + (4 : Int32).toNatClampNeg) + (1548 : Int32).toNatClampNeg) + (1548 : Int32).toNatClampNeg ≤ ms) (nw h10 (((((z0 + 1) + 1) + 1) + 1) + 1) (.inl (0, (1548 : Int32).toNatClampNeg, .inl (fun _ => 0))) (fun h11 =>
  pF h11 a0 5 8 (.ref (((((z0 + 1) + 1) + 1) + 1) + 1)) (fun h12 =>
  gd ((0 ≤ (1548 : Int32).toInt ∧ (1548 : Int32).toInt ≤ 65536) ∧ ((((((0 + 1) + 1) + 1) + 1) + 1) + 1) + 1 ≤ mc ∧ ((((((0 + (12 : Int32).toNatClampNeg) + (12 : Int32).toNatClampNeg) + (12 : Int32).toNatClampNeg) + (4 : Int32).toNatClampNeg) + (1548 : Int32).toNatClampNeg) + (1548 : Int32).toNatClampNeg) + (1548 : Int32).toNatClampNeg ≤ ms) (nw h12 ((((((z0 + 1) + 1) + 1) + 1) + 1) + 1) (.inl (0, (1548 : Int32).toNatClampNeg, .inl (fun _ => 0))) (fun h13 =>
  pF h13 a0 5 9 (.ref ((((((z0 + 1) + 1) + 1) + 1) + 1) + 1)) (fun h14 =>
  gd ((0 ≤ (768 : Int32).toInt ∧ (768 : Int32).toInt ≤ 65536) ∧ (((((((0 + 1) + 1) + 1) + 1) + 1) + 1) + 1) + 1 ≤ mc ∧ (((((((0 + (12 : Int32).toNatClampNeg) + (12 : Int32).toNatClampNeg) + (12 : Int32).toNatClampNeg) + (4 : Int32).toNatClampNeg) + (1548 : Int32).toNatClampNeg) + (1548 : Int32).toNatClampNeg) + (1548 : Int32).toNatClampNeg) + (768 : Int32).toNatClampNeg ≤ ms) (nw h14 (((((((z0 + 1) + 1) + 1) + 1) + 1) + 1) + 1) (.inl (0, (768 : Int32).toNatClampNeg, .inl (fun _ => 0))) (fun h15 =>
  pF h15 a0 5 10 (.ref (((((((z0 + 1) + 1) + 1) + 1) + 1) + 1) + 1)) (fun h16 =>
  gd ((0 ≤ (1548 : Int32).toInt ∧ (1548 : Int32).toInt ≤ 65536) ∧ ((((((((0 + 1) + 1) + 1) + 1) + 1) + 1) + 1) + 1) + 1 ≤ mc ∧ ((((((((0 + (12 : Int32).toNatClampNeg) + (12 : Int32).toNatClampNeg) + (12 : Int32).toNatClampNeg) + (4 : Int32).toNatClampNeg) + (1548 : Int32).toNatClampNeg) + (1548 : Int32).toNatClampNeg) + (1548 : Int32).toNatClampNeg) + (768 : Int32).toNatClampNeg) + (1548 : Int32).toNatClampNeg ≤ ms) (nw h16 ((((((((z0 + 1) + 1) + 1) + 1) + 1) + 1) + 1) + 1) (.inl (0, (1548 : Int32).toNatClampNeg, .inl (fun _ => 0))) (fun h17 =>
  pF h17 a0 5 11 (.ref ((((((((z0 + 1) + 1) + 1) + 1) + 1) + 1) + 1) + 1)) (fun h18 =>
  gd ((0 ≤ (1548 : Int32).toInt ∧ (1548 : Int32).toInt ≤ 65536) ∧ (((((((((0 + 1) + 1) + 1) + 1) + 1) + 1) + 1) + 1) + 1) + 1 ≤ mc ∧ (((((((((0 + (12 : Int32).toNatClampNeg) + (12 : Int32).toNatClampNeg) + (12 : Int32).toNatClampNeg) + (4 : Int32).toNatClampNeg) + (1548 : Int32).toNatClampNeg) + (1548 : Int32).toNatClampNeg) + (1548 : Int32).toNatClampNeg) + (768 : Int32).toNatClampNeg) + (1548 : Int32).toNatClampNeg) + (1548 : Int32).toNatClampNeg ≤ ms) (nw h18 (((((((((z0 + 1) + 1) + 1) + 1) + 1) + 1) + 1) + 1) + 1) (.inl (1, (1548 : Int32).toNatClampNeg, .inl (fun _ => 0))) (fun h19 =>
  pF h19 a0 5 12 (.ref (((((((((z0 + 1) + 1) + 1) + 1) + 1) + 1) + 1) + 1) + 1)) (fun h20 =>
  gd ((0 ≤ (1000 : Int32).toInt ∧ (1000 : Int32).toInt ≤ 65536) ∧ ((((((((((0 + 1) + 1) + 1) + 1) + 1) + 1) + 1) + 1) + 1) + 1) + 1 ≤ mc ∧ ((((((((((0 + (12 : Int32).toNatClampNeg) + (12 : Int32).toNatClampNeg) + (12 : Int32).toNatClampNeg) + (4 : Int32).toNatClampNeg) + (1548 : Int32).toNatClampNeg) + (1548 : Int32).toNatClampNeg) + (1548 : Int32).toNatClampNeg) + (768 : Int32).toNatClampNeg) + (1548 : Int32).toNatClampNeg) + (1548 : Int32).toNatClampNeg) + (1000 : Int32).toNatClampNeg ≤ ms) (nw h20 ((((((((((z0 + 1) + 1) + 1) + 1) + 1) + 1) + 1) + 1) + 1) + 1) (.inl (1, (1000 : Int32).toNatClampNeg, .inl (fun _ => 0))) (fun h21 =>
  pF h21 a0 5 14 (.ref ((((((((((z0 + 1) + 1) + 1) + 1) + 1) + 1) + 1) + 1) + 1) + 1)) (fun h22 =>
  gd ((0 ≤ (129 : Int32).toInt ∧ (129 : Int32).toInt ≤ 65536) ∧ (((((((((((0 + 1) + 1) + 1) + 1) + 1) + 1) + 1) + 1) + 1) + 1) + 1) + 1 ≤ mc ∧ (((((((((((0 + (12 : Int32).toNatClampNeg) + (12 : Int32).toNatClampNeg) + (12 : Int32).toNatClampNeg) + (4 : Int32).toNatClampNeg) + (1548 : Int32).toNatClampNeg) + (1548 : Int32).toNatClampNeg) + (1548 : Int32).toNatClampNeg) + (768 : Int32).toNatClampNeg) + (1548 : Int32).toNatClampNeg) + (1548 : Int32).toNatClampNeg) + (1000 : Int32).toNatClampNeg) + (129 : Int32).toNatClampNeg ≤ ms) (nw h22 (((((((((((z0 + 1) + 1) + 1) + 1) + 1) + 1) + 1) + 1) + 1) + 1) + 1) (.inl (0, (129 : Int32).toNatClampNeg, .inl (fun _ => 0))) (fun h23 =>
  pF h23 a0 5 21 (.ref (((((((((((z0 + 1) + 1) + 1) + 1) + 1) + 1) + 1) + 1) + 1) + 1) + 1)) (fun h24 =>
  gd ((0 ≤ (129 : Int32).toInt ∧ (129 : Int32).toInt ≤ 65536) ∧ ((((((((((((0 + 1) + 1) + 1) + 1) + 1) + 1) + 1) + 1) + 1) + 1) + 1) + 1) + 1 ≤ mc ∧ ((((((((((((0 + (12 : Int32).toNatClampNeg) + (12 : Int32).toNatClampNeg) + (12 : Int32).toNatClampNeg) + (4 : Int32).toNatClampNeg) + (1548 : Int32).toNatClampNeg) + (1548 : Int32).toNatClampNeg) + (1548 : Int32).toNatClampNeg) + (768 : Int32).toNatClampNeg) + (1548 : Int32).toNatClampNeg) + (1548 : Int32).toNatClampNeg) + (1000 : Int32).toNatClampNeg) + (129 : Int32).toNatClampNeg) + (129 : Int32).toNatClampNeg ≤ ms) (nw h24 ((((((((((((z0 + 1) + 1) + 1) + 1) + 1) + 1) + 1) + 1) + 1) + 1) + 1) + 1) (.inl (0, (129 : Int32).toNatClampNeg, .inl (fun _ => 0))) (fun h25 =>
  pF h25 a0 5 22 (.ref ((((((((((((z0 + 1) + 1) + 1) + 1) + 1) + 1) + 1) + 1) + 1) + 1) + 1) + 1)) (fun h26 =>
  gd ((0 ≤ (129 : Int32).toInt ∧ (129 : Int32).toInt ≤ 65536) ∧ (((((((((((((0 + 1) + 1) + 1) + 1) + 1) + 1) + 1) + 1) + 1) + 1) + 1) + 1) + 1) + 1 ≤ mc ∧ (((((((((((((0 + (12 : Int32).toNatClampNeg) + (12 : Int32).toNatClampNeg) + (12 : Int32).toNatClampNeg) + (4 : Int32).toNatClampNeg) + (1548 : Int32).toNatClampNeg) + (1548 : Int32).toNatClampNeg) + (1548 : Int32).toNatClampNeg) + (768 : Int32).toNatClampNeg) + (1548 : Int32).toNatClampNeg) + (1548 : Int32).toNatClampNeg) + (1000 : Int32).toNatClampNeg) + (129 : Int32).toNatClampNeg) + (129 : Int32).toNatClampNeg) + (129 : Int32).toNatClampNeg ≤ ms) (nw h26 (((((((((((((z0 + 1) + 1) + 1) + 1) + 1) + 1) + 1) + 1) + 1) + 1) + 1) + 1) + 1) (.inl (0, (129 : Int32).toNatClampNeg, .inl (fun _ => 0))) (fun h27 =>
  pF h27 a0 5 23 (.ref (((((((((((((z0 + 1) + 1) + 1) + 1) + 1) + 1) + 1) + 1) + 1) + 1) + 1) + 1) + 1)) (fun h28 =>
  gd ((0 ≤ (200 : Int32).toInt ∧ (200 : Int32).toInt ≤ 65536) ∧ ((((((((((((((0 + 1) + 1) + 1) + 1) + 1) + 1) + 1) + 1) + 1) + 1) + 1) + 1) + 1) + 1) + 1 ≤ mc ∧ ((((((((((((((0 + (12 : Int32).toNatClampNeg) + (12 : Int32).toNatClampNeg) + (12 : Int32).toNatClampNeg) + (4 : Int32).toNatClampNeg) + (1548 : Int32).toNatClampNeg) + (1548 : Int32).toNatClampNeg) + (1548 : Int32).toNatClampNeg) + (768 : Int32).toNatClampNeg) + (1548 : Int32).toNatClampNeg) + (1548 : Int32).toNatClampNeg) + (1000 : Int32).toNatClampNeg) + (129 : Int32).toNatClampNeg) + (129 : Int32).toNatClampNeg) + (129 : Int32).toNatClampNeg) + (200 : Int32).toNatClampNeg ≤ ms) (nw h28 ((((((((((((((z0 + 1) + 1) + 1) + 1) + 1) + 1) + 1) + 1) + 1) + 1) + 1) + 1) + 1) + 1) (.inl (1, (200 : Int32).toNatClampNeg, .inl (fun _ => 0))) (fun h29 =>
  pF h29 a0 5 24 (.ref ((((((((((((((z0 + 1) + 1) + 1) + 1) + 1) + 1) + 1) + 1) + 1) + 1) + 1) + 1) + 1) + 1)) (fun h30 =>
  jn (fun (y31 : Int32) (b32 : Nat) =>
  pF h30 b32 5 0 (.int y31) (fun h34 =>
  jn (fun (x35 : Int32) =>
  pF h34 a0 5 1 (.int x35) (fun h37 =>
  pF h37 a0 5 2 (.int 1000) (fun h38 =>
  pF h38 a0 5 16 (.int (-1)) (fun h39 =>
  jn (fun (h40 : Hp) =>
  gd ((((((((((((((((0 + 1) + 1) + 1) + 1) + 1) + 1) + 1) + 1) + 1) + 1) + 1) + 1) + 1) + 1) + 1) ≤ mc ∧ (((((((((((((((0 + (12 : Int32).toNatClampNeg) + (12 : Int32).toNatClampNeg) + (12 : Int32).toNatClampNeg) + (4 : Int32).toNatClampNeg) + (1548 : Int32).toNatClampNeg) + (1548 : Int32).toNatClampNeg) + (1548 : Int32).toNatClampNeg) + (768 : Int32).toNatClampNeg) + (1548 : Int32).toNatClampNeg) + (1548 : Int32).toNatClampNeg) + (1000 : Int32).toNatClampNeg) + (129 : Int32).toNatClampNeg) + (129 : Int32).toNatClampNeg) + (129 : Int32).toNatClampNeg) + (200 : Int32).toNatClampNeg) ≤ ms) (some (h40, (((((((((((((((z0 + 1) + 1) + 1) + 1) + 1) + 1) + 1) + 1) + 1) + 1) + 1) + 1) + 1) + 1) + 1))))
  (fun (K41 : Hp → Option (Hp × Nat)) =>
  lpG (fun _ _ => none) fu (LM_init_196 mc ms a0 K41) h39 0)))))
  (fun (K36 : Int32 → Option (Hp × Nat)) =>
  lpG (fun _ => none) fu (LM_init_161 a0 h34 K36) 1)))
  (fun (j33 : Int32 → Nat → Option (Hp × Nat)) =>
  if 2 ≤ p1 then
    (if p1 ≤ 64 then
      (j33 p1 a0)
    else
      (j33 64 a0))
  else
    (j33 2 a0)))))))))))))))))))))))))))))))))))))))))))))))
set_option maxRecDepth 100000 in
set_option maxHeartbeats 4000000 in
theorem mM_init (l : Launch) (mc ms : Nat) (h0 : Hp) (z0 : Nat) (a0 : Nat) (p1 : Int32) (r : (Hp × Nat)) (hr : FM_init mc ms h0 z0 a0 p1 = some r) : vM False l yM_init (Cond.code yM_init prog_7_method_1_code 4 none :: gW) 1 [.ref a0, .int p1] h0 z0 r.1 r.2 none mc ms := by
  refine vM.of (by decide) rfl (Nat.le_of_ble_eq_true rfl) ?_
  intro p e s m args below meth c D dA C hin2
  refine (?_ : vO p l e (vR 1 mc ms) s m args below meth c D dA (vA h0 z0) 4 False (fun r : (Hp × Nat) => MQ below (vQc False h0 z0 D dA r.1 r.2 none) args s mc ms (vAr False h0 z0)) 0 0 h0 z0 [(0, .ref a0), (1, .int p1)] 0 [] (FM_init mc ms h0 z0 a0 p1)) r hr
  obtain ⟨Q, hQ⟩ : ∃ Q : (Hp × Nat) → State → Prop, Q = (fun r : (Hp × Nat) => MQ below (vQc False h0 z0 D dA r.1 r.2 none) args s mc ms (vAr False h0 z0)) := ⟨_, rfl⟩
  rw [← hQ]
  unfold FM_init
  refine v_aload_n C dM_init_0 rfl 0 rfl ?_
  refine v_objInit C w_604 w_65 w_66 dM_init_1 (Nat.le_of_ble_eq_true rfl) (Nat.le_of_ble_eq_true rfl) ?_
  refine v_aload_n C dM_init_4 rfl 0 rfl ?_
  refine v_bipush (v := 12) C dM_init_5 (by decide) ?_
  refine v_newaI C rfl w_92 dM_init_7 (fun h1 => ?_)
  refine v_putF C v_cl5 (by decide) in_5 ty_5 ty_5_ok nm_5 rfl w_612 rfl hin2 rfl (ty := .array .int) (by decide +kernel) rfl rfl dM_init_9 (fun h2 => ?_)
  refine v_aload_n C dM_init_12 rfl 0 rfl ?_
  refine v_bipush (v := 12) C dM_init_13 (by decide) ?_
  refine v_newaI C rfl w_92 dM_init_15 (fun h3 => ?_)
  refine v_putF C v_cl5 (by decide) in_5 ty_5 ty_5_ok nm_5 rfl w_613 rfl hin2 rfl (ty := .array .int) (by decide +kernel) rfl rfl dM_init_17 (fun h4 => ?_)
  refine v_aload_n C dM_init_20 rfl 0 rfl ?_
  refine v_bipush (v := 12) C dM_init_21 (by decide) ?_
  refine v_newaI C rfl w_92 dM_init_23 (fun h5 => ?_)
  refine v_putF C v_cl5 (by decide) in_5 ty_5 ty_5_ok nm_5 rfl w_614 rfl hin2 rfl (ty := .array .int) (by decide +kernel) rfl rfl dM_init_25 (fun h6 => ?_)
  refine v_aload_n C dM_init_28 rfl 0 rfl ?_
  refine v_iconst (v := 4) C dM_init_29 (by decide) ?_
  refine v_newaZ C rfl w_91 dM_init_30 (fun h7 => ?_)
  refine v_putF C v_cl5 (by decide) in_5 ty_5 ty_5_ok nm_5 rfl w_615 rfl hin2 rfl (ty := .array .boolean) (by decide +kernel) rfl rfl dM_init_32 (fun h8 => ?_)
  refine v_aload_n C dM_init_35 rfl 0 rfl ?_
  refine v_sipush (v := 1548) C dM_init_36 (by decide) ?_
  refine v_newaI C rfl w_92 dM_init_39 (fun h9 => ?_)
  refine v_putF C v_cl5 (by decide) in_5 ty_5 ty_5_ok nm_5 rfl w_616 rfl hin2 rfl (ty := .array .int) (by decide +kernel) rfl rfl dM_init_41 (fun h10 => ?_)
  refine v_aload_n C dM_init_44 rfl 0 rfl ?_
  refine v_sipush (v := 1548) C dM_init_45 (by decide) ?_
  refine v_newaI C rfl w_92 dM_init_48 (fun h11 => ?_)
  refine v_putF C v_cl5 (by decide) in_5 ty_5 ty_5_ok nm_5 rfl w_617 rfl hin2 rfl (ty := .array .int) (by decide +kernel) rfl rfl dM_init_50 (fun h12 => ?_)
  refine v_aload_n C dM_init_53 rfl 0 rfl ?_
  refine v_sipush (v := 1548) C dM_init_54 (by decide) ?_
  refine v_newaI C rfl w_92 dM_init_57 (fun h13 => ?_)
  refine v_putF C v_cl5 (by decide) in_5 ty_5 ty_5_ok nm_5 rfl w_618 rfl hin2 rfl (ty := .array .int) (by decide +kernel) rfl rfl dM_init_59 (fun h14 => ?_)
  refine v_aload_n C dM_init_62 rfl 0 rfl ?_
  refine v_sipush (v := 768) C dM_init_63 (by decide) ?_
  refine v_newaI C rfl w_92 dM_init_66 (fun h15 => ?_)
  refine v_putF C v_cl5 (by decide) in_5 ty_5 ty_5_ok nm_5 rfl w_619 rfl hin2 rfl (ty := .array .int) (by decide +kernel) rfl rfl dM_init_68 (fun h16 => ?_)
  refine v_aload_n C dM_init_71 rfl 0 rfl ?_
  refine v_sipush (v := 1548) C dM_init_72 (by decide) ?_
  refine v_newaI C rfl w_92 dM_init_75 (fun h17 => ?_)
  refine v_putF C v_cl5 (by decide) in_5 ty_5 ty_5_ok nm_5 rfl w_620 rfl hin2 rfl (ty := .array .int) (by decide +kernel) rfl rfl dM_init_77 (fun h18 => ?_)
  refine v_aload_n C dM_init_80 rfl 0 rfl ?_
  refine v_sipush (v := 1548) C dM_init_81 (by decide) ?_
  refine v_newaZ C rfl w_91 dM_init_84 (fun h19 => ?_)
  refine v_putF C v_cl5 (by decide) in_5 ty_5 ty_5_ok nm_5 rfl w_621 rfl hin2 rfl (ty := .array .boolean) (by decide +kernel) rfl rfl dM_init_86 (fun h20 => ?_)
  refine v_aload_n C dM_init_89 rfl 0 rfl ?_
  refine v_sipush (v := 1000) C dM_init_90 (by decide) ?_
  refine v_newaZ C rfl w_91 dM_init_93 (fun h21 => ?_)
  refine v_putF C v_cl5 (by decide) in_5 ty_5 ty_5_ok nm_5 rfl w_623 rfl hin2 rfl (ty := .array .boolean) (by decide +kernel) rfl rfl dM_init_95 (fun h22 => ?_)
  refine v_aload_n C dM_init_98 rfl 0 rfl ?_
  refine v_sipush (v := 129) C dM_init_99 (by decide) ?_
  refine v_newaI C rfl w_92 dM_init_102 (fun h23 => ?_)
  refine v_putF C v_cl5 (by decide) in_5 ty_5 ty_5_ok nm_5 rfl w_630 rfl hin2 rfl (ty := .array .int) (by decide +kernel) rfl rfl dM_init_104 (fun h24 => ?_)
  refine v_aload_n C dM_init_107 rfl 0 rfl ?_
  refine v_sipush (v := 129) C dM_init_108 (by decide) ?_
  refine v_newaI C rfl w_92 dM_init_111 (fun h25 => ?_)
  refine v_putF C v_cl5 (by decide) in_5 ty_5 ty_5_ok nm_5 rfl w_631 rfl hin2 rfl (ty := .array .int) (by decide +kernel) rfl rfl dM_init_113 (fun h26 => ?_)
  refine v_aload_n C dM_init_116 rfl 0 rfl ?_
  refine v_sipush (v := 129) C dM_init_117 (by decide) ?_
  refine v_newaI C rfl w_92 dM_init_120 (fun h27 => ?_)
  refine v_putF C v_cl5 (by decide) in_5 ty_5 ty_5_ok nm_5 rfl w_632 rfl hin2 rfl (ty := .array .int) (by decide +kernel) rfl rfl dM_init_122 (fun h28 => ?_)
  refine v_aload_n C dM_init_125 rfl 0 rfl ?_
  refine v_sipush (v := 200) C dM_init_126 (by decide) ?_
  refine v_newaZ C rfl w_91 dM_init_129 (fun h29 => ?_)
  refine v_putF C v_cl5 (by decide) in_5 ty_5 ty_5_ok nm_5 rfl w_633 rfl hin2 rfl (ty := .array .boolean) (by decide +kernel) rfl rfl dM_init_131 (fun h30 => ?_)
  refine v_aload_n C dM_init_134 rfl 0 rfl ?_
  refine v_iload_n C dM_init_135 rfl 1 rfl ?_
  refine v_iconst (v := 2) C dM_init_136 (by decide) ?_
  refine v_jn (fun (j : Int32 → Nat → Option (Hp × Nat)) => ∀ (y31 : Int32), ∀ (b32 : Nat), vO p l e (vR 1 mc ms) s m args below meth c D dA (vA h0 z0) 4 False Q (((((((((((((((0 + 1) + 1) + 1) + 1) + 1) + 1) + 1) + 1) + 1) + 1) + 1) + 1) + 1) + 1) + 1) (((((((((((((((0 + (12 : Int32).toNatClampNeg) + (12 : Int32).toNatClampNeg) + (12 : Int32).toNatClampNeg) + (4 : Int32).toNatClampNeg) + (1548 : Int32).toNatClampNeg) + (1548 : Int32).toNatClampNeg) + (1548 : Int32).toNatClampNeg) + (768 : Int32).toNatClampNeg) + (1548 : Int32).toNatClampNeg) + (1548 : Int32).toNatClampNeg) + (1000 : Int32).toNatClampNeg) + (129 : Int32).toNatClampNeg) + (129 : Int32).toNatClampNeg) + (129 : Int32).toNatClampNeg) + (200 : Int32).toNatClampNeg) h30 (((((((((((((((z0 + 1) + 1) + 1) + 1) + 1) + 1) + 1) + 1) + 1) + 1) + 1) + 1) + 1) + 1) + 1) [(0, .ref a0)] 156 [.int y31, .ref b32] (j y31 b32)) ?_ (fun j33 Hj33 => ?_)
  · intro y31 b32
    refine v_putF C v_cl5 (by decide) in_5 ty_5 ty_5_ok nm_5 rfl w_609 rfl hin2 rfl (ty := .int) (by decide +kernel) rfl rfl dM_init_156 (fun h34 => ?_)
    refine v_iconst (v := 1) C dM_init_159 (by decide) ?_
    refine v_istore_n (lv' := [(0, .ref a0), (2, .int 1)]) C dM_init_160 rfl (by decide) [1, 0] rfl ?_
    refine v_jn (fun (j : Int32 → Option (Hp × Nat)) => ∀ (x35 : Int32), vO p l e (vR 1 mc ms) s m args below meth c D dA (vA h0 z0) 4 False Q (((((((((((((((0 + 1) + 1) + 1) + 1) + 1) + 1) + 1) + 1) + 1) + 1) + 1) + 1) + 1) + 1) + 1) (((((((((((((((0 + (12 : Int32).toNatClampNeg) + (12 : Int32).toNatClampNeg) + (12 : Int32).toNatClampNeg) + (4 : Int32).toNatClampNeg) + (1548 : Int32).toNatClampNeg) + (1548 : Int32).toNatClampNeg) + (1548 : Int32).toNatClampNeg) + (768 : Int32).toNatClampNeg) + (1548 : Int32).toNatClampNeg) + (1548 : Int32).toNatClampNeg) + (1000 : Int32).toNatClampNeg) + (129 : Int32).toNatClampNeg) + (129 : Int32).toNatClampNeg) + (129 : Int32).toNatClampNeg) + (200 : Int32).toNatClampNeg) h34 (((((((((((((((z0 + 1) + 1) + 1) + 1) + 1) + 1) + 1) + 1) + 1) + 1) + 1) + 1) + 1) + 1) + 1) [(0, .ref a0), (2, .int x35)] 177 [] (j x35)) ?_ (fun K36 HK36 => ?_)
    · intro x35
      refine v_aload_n C dM_init_177 rfl 0 rfl ?_
      refine v_iload_n C dM_init_178 rfl 1 rfl ?_
      refine v_putF C v_cl5 (by decide) in_5 ty_5 ty_5_ok nm_5 rfl w_610 rfl hin2 rfl (ty := .int) (by decide +kernel) rfl rfl dM_init_179 (fun h37 => ?_)
      refine v_aload_n C dM_init_182 rfl 0 rfl ?_
      refine v_sipush (v := 1000) C dM_init_183 (by decide) ?_
      refine v_put C v_cl5 (by decide) in_5 ty_5 ty_5_ok nm_5 rfl w_611 rfl (ty := .int) (by decide +kernel) rfl rfl dM_init_186 (fun h38 => ?_)
      refine v_aload_n C dM_init_189 rfl 0 rfl ?_
      refine v_iconst (v := (-1)) C dM_init_190 (by decide) ?_
      refine v_put C v_cl5 (by decide) in_5 ty_5 ty_5_ok nm_5 rfl w_625 rfl (ty := .int) (by decide +kernel) rfl rfl dM_init_191 (fun h39 => ?_)
      refine v_iconst (v := 0) C dM_init_194 (by decide) ?_
      refine v_istore_n (lv' := [(0, .ref a0), (3, .int 0)]) C dM_init_195 rfl (by decide) [1, 0] rfl ?_
      refine v_jn (fun (j : Hp → Option (Hp × Nat)) => ∀ (h40 : Hp), vO p l e (vR 1 mc ms) s m args below meth c D dA (vA h0 z0) 4 False Q (((((((((((((((0 + 1) + 1) + 1) + 1) + 1) + 1) + 1) + 1) + 1) + 1) + 1) + 1) + 1) + 1) + 1) (((((((((((((((0 + (12 : Int32).toNatClampNeg) + (12 : Int32).toNatClampNeg) + (12 : Int32).toNatClampNeg) + (4 : Int32).toNatClampNeg) + (1548 : Int32).toNatClampNeg) + (1548 : Int32).toNatClampNeg) + (1548 : Int32).toNatClampNeg) + (768 : Int32).toNatClampNeg) + (1548 : Int32).toNatClampNeg) + (1548 : Int32).toNatClampNeg) + (1000 : Int32).toNatClampNeg) + (129 : Int32).toNatClampNeg) + (129 : Int32).toNatClampNeg) + (129 : Int32).toNatClampNeg) + (200 : Int32).toNatClampNeg) h40 (((((((((((((((z0 + 1) + 1) + 1) + 1) + 1) + 1) + 1) + 1) + 1) + 1) + 1) + 1) + 1) + 1) + 1) [] 214 [] (j h40)) ?_ (fun K41 HK41 => ?_)
      · intro h40
        exact v_vretW C dM_init_214 (by rw [hQ])
      · refine lpG_ind (bot := (fun _ _ => none)) (B := LM_init_196 mc ms a0 K41) (fun (r : Hp → Int32 → Option (Hp × Nat)) => ∀ (h42 : Hp), ∀ (x43 : Int32), vO p l e (vR 1 mc ms) s m args below meth c D dA (vA h0 z0) 4 False Q (((((((((((((((0 + 1) + 1) + 1) + 1) + 1) + 1) + 1) + 1) + 1) + 1) + 1) + 1) + 1) + 1) + 1) (((((((((((((((0 + (12 : Int32).toNatClampNeg) + (12 : Int32).toNatClampNeg) + (12 : Int32).toNatClampNeg) + (4 : Int32).toNatClampNeg) + (1548 : Int32).toNatClampNeg) + (1548 : Int32).toNatClampNeg) + (1548 : Int32).toNatClampNeg) + (768 : Int32).toNatClampNeg) + (1548 : Int32).toNatClampNeg) + (1548 : Int32).toNatClampNeg) + (1000 : Int32).toNatClampNeg) + (129 : Int32).toNatClampNeg) + (129 : Int32).toNatClampNeg) + (129 : Int32).toNatClampNeg) + (200 : Int32).toNatClampNeg) h42 (((((((((((((((z0 + 1) + 1) + 1) + 1) + 1) + 1) + 1) + 1) + 1) + 1) + 1) + 1) + 1) + 1) + 1) [(0, .ref a0), (3, .int x43)] 196 [] (r h42 x43)) ?_ ?_ fu h39 0
        · intro h42 x43
          exact v_none
        · intro rec44 Hrec44 h42 x43
          unfold LM_init_196
          refine v_iload_n C dM_init_196 rfl 1 rfl ?_
          refine v_bipush (v := 8) C dM_init_197 (by decide) ?_
          refine v_icmp_ge (tgt := 214) C dM_init_199 (by decide) ?_ ?_
          · refine v_lv (lv' := []) [] rfl ?_
            exact HK41 h42
          · refine v_aload_n C dM_init_202 rfl 0 rfl ?_
            refine v_iload_n C dM_init_203 rfl 1 rfl ?_
            refine v_iconst (v := 0) C dM_init_204 (by decide) ?_
            refine v_gd fun HCS => ?_
            refine v_gd fun hO45 => ?_
            refine v_bind fun r46 hr46 => ?_
            refine v_callV0 (N := 2) (As := [.int x43, .int 0]) (st := []) C (fun f => f.elim) (mM_begin l h42 (((((((((((((((z0 + 1) + 1) + 1) + 1) + 1) + 1) + 1) + 1) + 1) + 1) + 1) + 1) + 1) + 1) + 1) a0 x43 0 r46 hr46) rfl w_608 w_53 (by decide +kernel) ⟨Nat.le_of_ble_eq_true rfl, Nat.le_of_ble_eq_true rfl⟩ rfl rfl (Nat.le_of_ble_eq_true rfl) HCS w_605 w_607 w_24 v_cl5 rfl hO45 dM_init_205 ?_
            refine v_iinc (v := (x43 + 1)) (lv' := [(0, .ref a0), (3, .int (x43 + 1))]) C dM_init_208 1 rfl rfl (by decide) [1, 0] rfl ?_
            refine v_goto (tgt := 196) C dM_init_211 (by decide) ?_
            exact Hrec44 r46 (x43 + 1)
    · refine lpG_ind (bot := (fun _ => none)) (B := LM_init_161 a0 h34 K36) (fun (r : Int32 → Option (Hp × Nat)) => ∀ (x47 : Int32), vO p l e (vR 1 mc ms) s m args below meth c D dA (vA h0 z0) 4 False Q (((((((((((((((0 + 1) + 1) + 1) + 1) + 1) + 1) + 1) + 1) + 1) + 1) + 1) + 1) + 1) + 1) + 1) (((((((((((((((0 + (12 : Int32).toNatClampNeg) + (12 : Int32).toNatClampNeg) + (12 : Int32).toNatClampNeg) + (4 : Int32).toNatClampNeg) + (1548 : Int32).toNatClampNeg) + (1548 : Int32).toNatClampNeg) + (1548 : Int32).toNatClampNeg) + (768 : Int32).toNatClampNeg) + (1548 : Int32).toNatClampNeg) + (1548 : Int32).toNatClampNeg) + (1000 : Int32).toNatClampNeg) + (129 : Int32).toNatClampNeg) + (129 : Int32).toNatClampNeg) + (129 : Int32).toNatClampNeg) + (200 : Int32).toNatClampNeg) h34 (((((((((((((((z0 + 1) + 1) + 1) + 1) + 1) + 1) + 1) + 1) + 1) + 1) + 1) + 1) + 1) + 1) + 1) [(0, .ref a0), (2, .int x47)] 161 [] (r x47)) ?_ ?_ fu 1
      · intro x47
        exact v_none
      · intro rec48 Hrec48 x47
        unfold LM_init_161
        refine v_iconst (v := 1) C dM_init_161 (by decide) ?_
        refine v_iload_n C dM_init_162 rfl 1 rfl ?_
        refine v_ishl C dM_init_163 ?_
        refine v_aload_n C dM_init_164 rfl 0 rfl ?_
        refine v_getI C v_cl5 (by decide) in_5 rfl w_609 dM_init_165 (fun x49 => ?_)
        refine v_icmp_ge (tgt := 177) C dM_init_168 (by decide) ?_ ?_
        · exact HK36 x47
        · refine v_iinc (v := (x47 + 1)) (lv' := [(0, .ref a0), (2, .int (x47 + 1))]) C dM_init_171 1 rfl rfl (by decide) [1, 0] rfl ?_
          refine v_goto (tgt := 161) C dM_init_174 (by decide) ?_
          exact Hrec48 (x47 + 1)
  · refine v_icmp_ge (tgt := 144) C dM_init_137 (by decide) ?_ ?_
    · refine v_iload_n C dM_init_144 rfl 1 rfl ?_
      refine v_bipush (v := 64) C dM_init_145 (by decide) ?_
      refine v_icmp_le (tgt := 155) C dM_init_147 (by decide) ?_ ?_
      · refine v_iload_n C dM_init_155 rfl 1 rfl ?_
        refine v_lv (lv' := [(0, .ref a0)]) [0] rfl ?_
        exact Hj33 p1 a0
      · refine v_bipush (v := 64) C dM_init_150 (by decide) ?_
        refine v_goto (tgt := 156) C dM_init_152 (by decide) ?_
        refine v_lv (lv' := [(0, .ref a0)]) [0] rfl ?_
        exact Hj33 64 a0
    · refine v_iconst (v := 2) C dM_init_140 (by decide) ?_
      refine v_goto (tgt := 156) C dM_init_141 (by decide) ?_
      refine v_lv (lv' := [(0, .ref a0)]) [0] rfl ?_
      exact Hj33 2 a0
