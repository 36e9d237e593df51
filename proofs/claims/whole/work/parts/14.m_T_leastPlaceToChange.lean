theorem dT_leastPlaceToChange_0 : decode prog_5_method_18_code 0 = .ok (.aload_n 0, 1) := by decide +kernel
theorem dT_leastPlaceToChange_1 : decode prog_5_method_18_code 1 = .ok (.iload_n 1, 1) := by decide +kernel
theorem dT_leastPlaceToChange_2 : decode prog_5_method_18_code 2 = .ok (.invokevirtual 99, 3) := by decide +kernel
theorem dT_leastPlaceToChange_5 : decode prog_5_method_18_code 5 = .ok (.istore_n 2, 1) := by decide +kernel
theorem dT_leastPlaceToChange_6 : decode prog_5_method_18_code 6 = .ok (.aload_n 0, 1) := by decide +kernel
theorem dT_leastPlaceToChange_7 : decode prog_5_method_18_code 7 = .ok (.iload_n 1, 1) := by decide +kernel
theorem dT_leastPlaceToChange_8 : decode prog_5_method_18_code 8 = .ok (.invokevirtual 71, 3) := by decide +kernel
theorem dT_leastPlaceToChange_11 : decode prog_5_method_18_code 11 = .ok (.istore_n 3, 1) := by decide +kernel
theorem dT_leastPlaceToChange_12 : decode prog_5_method_18_code 12 = .ok (.iconst 0, 1) := by decide +kernel
theorem dT_leastPlaceToChange_13 : decode prog_5_method_18_code 13 = .ok (.istore 4, 2) := by decide +kernel
theorem dT_leastPlaceToChange_15 : decode prog_5_method_18_code 15 = .ok (.iload 4, 2) := by decide +kernel
theorem dT_leastPlaceToChange_17 : decode prog_5_method_18_code 17 = .ok (.iload_n 1, 1) := by decide +kernel
theorem dT_leastPlaceToChange_18 : decode prog_5_method_18_code 18 = .ok (.if_icmp .ge 28, 3) := by decide +kernel
theorem dT_leastPlaceToChange_21 : decode prog_5_method_18_code 21 = .ok (.aload_n 0, 1) := by decide +kernel
theorem dT_leastPlaceToChange_22 : decode prog_5_method_18_code 22 = .ok (.iload 4, 2) := by decide +kernel
theorem dT_leastPlaceToChange_24 : decode prog_5_method_18_code 24 = .ok (.invokevirtual 99, 3) := by decide +kernel
theorem dT_leastPlaceToChange_27 : decode prog_5_method_18_code 27 = .ok (.iload_n 2, 1) := by decide +kernel
theorem dT_leastPlaceToChange_28 : decode prog_5_method_18_code 28 = .ok (.if_icmp .ne 12, 3) := by decide +kernel
theorem dT_leastPlaceToChange_31 : decode prog_5_method_18_code 31 = .ok (.iload 4, 2) := by decide +kernel
theorem dT_leastPlaceToChange_33 : decode prog_5_method_18_code 33 = .ok (.iload_n 3, 1) := by decide +kernel
theorem dT_leastPlaceToChange_34 : decode prog_5_method_18_code 34 = .ok (.if_icmp .eq 6, 3) := by decide +kernel
theorem dT_leastPlaceToChange_37 : decode prog_5_method_18_code 37 = .ok (.iload 4, 2) := by decide +kernel
theorem dT_leastPlaceToChange_39 : decode prog_5_method_18_code 39 = .ok (.ireturn, 1) := by decide +kernel
theorem dT_leastPlaceToChange_40 : decode prog_5_method_18_code 40 = .ok (.iinc 4 1, 3) := by decide +kernel
theorem dT_leastPlaceToChange_43 : decode prog_5_method_18_code 43 = .ok (.goto (-28), 3) := by decide +kernel
theorem dT_leastPlaceToChange_46 : decode prog_5_method_18_code 46 = .ok (.iload_n 1, 1) := by decide +kernel
theorem dT_leastPlaceToChange_47 : decode prog_5_method_18_code 47 = .ok (.ireturn, 1) := by decide +kernel
def LT_leastPlaceToChange_15 (h0 : Hp) (a0 : Nat) (p1 : Int32) (r2 : Int32) (r4 : Int32) (K5 : Option Int32) (K7 : Int32 → Option Int32) (rec9 : Int32 → Option Int32) (x8 : Int32) : Option Int32 :=
  if p1 ≤ x8 then
    (K5)
  else
    (gd (isO h0 a0 3 = true) ((FT_countAt h0 a0 x8).bind (fun r11 =>
    jn (rec9 (x8 + 1))
    (fun (j12 : Option Int32) =>
    if r11 = r2 then
      (if x8 = r4 then
        (j12)
      else
        (K7 x8))
    else
      (j12)))))
def FT_leastPlaceToChange (h0 : Hp) (a0 : Nat) (p1 : Int32) : Option Int32 :=
  gd (isO h0 a0 3 = true) ((FT_countAt h0 a0 p1).bind (fun r2 =>
  gd (isO h0 a0 3 = true) ((FT_parentOf h0 a0 p1).bind (fun r4 =>
  jn (some p1)
  (fun (K5 : Option Int32) =>
  jn (fun (x6 : Int32) =>
  some x6)
  (fun (K7 : Int32 → Option Int32) =>
  lpG (fun _ => none) fu (LT_leastPlaceToChange_15 h0 a0 p1 r2 r4 K5 K7) 0))))))
set_option maxRecDepth 100000 in
set_option maxHeartbeats 4000000 in
theorem mT_leastPlaceToChange (l : Launch) (h0 : Hp) (z0 : Nat) (a0 : Nat) (p1 : Int32) (r : Int32) (hr : FT_leastPlaceToChange h0 a0 p1 = some r) : vM True l yT_leastPlaceToChange (Cond.code yT_leastPlaceToChange prog_5_method_18_code 5 (some (.int)) :: gW) 2 [.ref a0, .int p1] h0 z0 h0 z0 (some (.int r)) 0 0 := by
  refine vM.of (by decide) rfl (Nat.le_of_ble_eq_true rfl) ?_
  intro p e s m args below meth c D dA C hin2
  refine (?_ : vO p l e (vR 2 0 0) s m args below meth c D dA (vA h0 z0) 5 True (fun r : Int32 => MQ below (vQc True h0 z0 D dA h0 z0 (some (.int r))) args s 0 0 (vAr True h0 z0)) 0 0 h0 z0 [(0, .ref a0), (1, .int p1)] 0 [] (FT_leastPlaceToChange h0 a0 p1)) r hr
  obtain ⟨Q, hQ⟩ : ∃ Q : Int32 → State → Prop, Q = (fun r : Int32 => MQ below (vQc True h0 z0 D dA h0 z0 (some (.int r))) args s 0 0 (vAr True h0 z0)) := ⟨_, rfl⟩
  rw [← hQ]
  unfold FT_leastPlaceToChange
  refine v_aload_n C dT_leastPlaceToChange_0 rfl 0 rfl ?_
  refine v_iload_n C dT_leastPlaceToChange_1 rfl 1 rfl ?_
  refine v_gd fun hO1 => ?_
  refine v_bind fun r2 hr2 => ?_
  refine v_callV0 (N := 1) (As := [.int p1]) (st := []) C (fun _ => trivial) (mT_countAt l h0 z0 a0 p1 r2 hr2) rfl w_344 w_52 (by decide +kernel) ⟨Nat.le_of_ble_eq_true rfl, Nat.le_of_ble_eq_true rfl⟩ rfl rfl (Nat.le_of_ble_eq_true rfl) ⟨Nat.zero_le _, Nat.zero_le _⟩ w_341 w_342 w_343 v_cl3 rfl hO1 dT_leastPlaceToChange_2 ?_
  refine v_istore_n (lv' := [(0, .ref a0), (1, .int p1), (2, .int r2)]) C dT_leastPlaceToChange_5 rfl (by decide) [1, 2, 0] rfl ?_
  refine v_aload_n C dT_leastPlaceToChange_6 rfl 0 rfl ?_
  refine v_iload_n C dT_leastPlaceToChange_7 rfl 1 rfl ?_
  refine v_gd fun hO3 => ?_
  refine v_bind fun r4 hr4 => ?_
  refine v_callV0 (N := 1) (As := [.int p1]) (st := []) C (fun _ => trivial) (mT_parentOf l h0 z0 a0 p1 r4 hr4) rfl w_294 w_52 (by decide +kernel) ⟨Nat.le_of_ble_eq_true rfl, Nat.le_of_ble_eq_true rfl⟩ rfl rfl (Nat.le_of_ble_eq_true rfl) ⟨Nat.zero_le _, Nat.zero_le _⟩ w_291 w_292 w_293 v_cl3 rfl hO3 dT_leastPlaceToChange_8 ?_
  refine v_istore_n (lv' := [(0, .ref a0), (1, .int p1), (2, .int r2), (3, .int r4)]) C dT_leastPlaceToChange_11 rfl (by decide) [1, 2, 3, 0] rfl ?_
  refine v_iconst (v := 0) C dT_leastPlaceToChange_12 (by decide) ?_
  refine v_istore (lv' := [(0, .ref a0), (1, .int p1), (2, .int r2), (3, .int r4), (4, .int 0)]) C dT_leastPlaceToChange_13 (by decide) [1, 2, 3, 4, 0] rfl ?_
  refine v_jn (fun (j : Option Int32) => vO p l e (vR 2 0 0) s m args below meth c D dA (vA h0 z0) 5 True Q 0 0 h0 z0 [(1, .int p1)] 46 [] j) ?_ (fun K5 HK5 => ?_)
  · refine v_iload_n C dT_leastPlaceToChange_46 rfl 0 rfl ?_
    exact v_iret C dT_leastPlaceToChange_47 (by rw [hQ])
  · refine v_jn (fun (j : Int32 → Option Int32) => ∀ (x6 : Int32), vO p l e (vR 2 0 0) s m args below meth c D dA (vA h0 z0) 5 True Q 0 0 h0 z0 [(4, .int x6)] 37 [] (j x6)) ?_ (fun K7 HK7 => ?_)
    · intro x6
      refine v_iload C dT_leastPlaceToChange_37 0 rfl ?_
      exact v_iret C dT_leastPlaceToChange_39 (by rw [hQ])
    · refine lpG_ind (bot := (fun _ => none)) (B := LT_leastPlaceToChange_15 h0 a0 p1 r2 r4 K5 K7) (fun (r : Int32 → Option Int32) => ∀ (x8 : Int32), vO p l e (vR 2 0 0) s m args below meth c D dA (vA h0 z0) 5 True Q 0 0 h0 z0 [(0, .ref a0), (1, .int p1), (2, .int r2), (3, .int r4), (4, .int x8)] 15 [] (r x8)) ?_ ?_ fu 0
      · intro x8
        exact v_none
      · intro rec9 Hrec9 x8
        unfold LT_leastPlaceToChange_15
        refine v_iload C dT_leastPlaceToChange_15 4 rfl ?_
        refine v_iload_n C dT_leastPlaceToChange_17 rfl 1 rfl ?_
        refine v_icmp_ge (tgt := 46) C dT_leastPlaceToChange_18 (by decide) ?_ ?_
        · refine v_lv (lv' := [(1, .int p1)]) [1] rfl ?_
          exact HK5
        · refine v_aload_n C dT_leastPlaceToChange_21 rfl 0 rfl ?_
          refine v_iload C dT_leastPlaceToChange_22 4 rfl ?_
          refine v_gd fun hO10 => ?_
          refine v_bind fun r11 hr11 => ?_
          refine v_callV0 (N := 1) (As := [.int x8]) (st := []) C (fun _ => trivial) (mT_countAt l h0 z0 a0 x8 r11 hr11) rfl w_344 w_52 (by decide +kernel) ⟨Nat.le_of_ble_eq_true rfl, Nat.le_of_ble_eq_true rfl⟩ rfl rfl (Nat.le_of_ble_eq_true rfl) ⟨Nat.zero_le _, Nat.zero_le _⟩ w_341 w_342 w_343 v_cl3 rfl hO10 dT_leastPlaceToChange_24 ?_
          refine v_iload_n C dT_leastPlaceToChange_27 rfl 2 rfl ?_
          refine v_jn (fun (j : Option Int32) => vO p l e (vR 2 0 0) s m args below meth c D dA (vA h0 z0) 5 True Q 0 0 h0 z0 [(0, .ref a0), (1, .int p1), (2, .int r2), (3, .int r4), (4, .int x8)] 40 [] j) ?_ (fun j12 Hj12 => ?_)
          · refine v_iinc (v := (x8 + 1)) (lv' := [(0, .ref a0), (1, .int p1), (2, .int r2), (3, .int r4), (4, .int (x8 + 1))]) C dT_leastPlaceToChange_40 4 rfl rfl (by decide) [1, 2, 3, 4, 0] rfl ?_
            refine v_goto (tgt := 15) C dT_leastPlaceToChange_43 (by decide) ?_
            exact Hrec9 (x8 + 1)
          · refine v_icmp_ne (tgt := 40) C dT_leastPlaceToChange_28 (by decide) ?_ ?_
            · exact Hj12
            · refine v_iload C dT_leastPlaceToChange_31 4 rfl ?_
              refine v_iload_n C dT_leastPlaceToChange_33 rfl 3 rfl ?_
              refine v_icmp_eq (tgt := 40) C dT_leastPlaceToChange_34 (by decide) ?_ ?_
              · exact Hj12
              · refine v_lv (lv' := [(4, .int x8)]) [4] rfl ?_
                exact HK7 x8
theorem dT_changePlaces_0 : decode prog_5_method_19_code 0 = .ok (.aload_n 0, 1) := by decide +kernel
theorem dT_changePlaces_1 : decode prog_5_method_19_code 1 = .ok (.iload_n 1, 1) := by decide +kernel
theorem dT_changePlaces_2 : decode prog_5_method_19_code 2 = .ok (.invokevirtual 64, 3) := by decide +kernel
theorem dT_changePlaces_5 : decode prog_5_method_19_code 5 = .ok (.ifCond .eq 11, 3) := by decide +kernel
theorem dT_changePlaces_8 : decode prog_5_method_19_code 8 = .ok (.aload_n 0, 1) := by decide +kernel
theorem dT_changePlaces_9 : decode prog_5_method_19_code 9 = .ok (.iload_n 2, 1) := by decide +kernel
theorem dT_changePlaces_10 : decode prog_5_method_19_code 10 = .ok (.invokevirtual 64, 3) := by decide +kernel
theorem dT_changePlaces_13 : decode prog_5_method_19_code 13 = .ok (.ifCond .ne 4, 3) := by decide +kernel
theorem dT_changePlaces_16 : decode prog_5_method_19_code 16 = .ok (.return_, 1) := by decide +kernel
theorem dT_changePlaces_17 : decode prog_5_method_19_code 17 = .ok (.aload_n 0, 1) := by decide +kernel
theorem dT_changePlaces_18 : decode prog_5_method_19_code 18 = .ok (.getfield 35, 3) := by decide +kernel
theorem dT_changePlaces_21 : decode prog_5_method_19_code 21 = .ok (.iload_n 1, 1) := by decide +kernel
theorem dT_changePlaces_22 : decode prog_5_method_19_code 22 = .ok (.iaload, 1) := by decide +kernel
theorem dT_changePlaces_23 : decode prog_5_method_19_code 23 = .ok (.istore_n 3, 1) := by decide +kernel
theorem dT_changePlaces_24 : decode prog_5_method_19_code 24 = .ok (.aload_n 0, 1) := by decide +kernel
theorem dT_changePlaces_25 : decode prog_5_method_19_code 25 = .ok (.getfield 39, 3) := by decide +kernel
theorem dT_changePlaces_28 : decode prog_5_method_19_code 28 = .ok (.iload_n 1, 1) := by decide +kernel
theorem dT_changePlaces_29 : decode prog_5_method_19_code 29 = .ok (.iaload, 1) := by decide +kernel
theorem dT_changePlaces_30 : decode prog_5_method_19_code 30 = .ok (.istore 4, 2) := by decide +kernel
theorem dT_changePlaces_32 : decode prog_5_method_19_code 32 = .ok (.aload_n 0, 1) := by decide +kernel
theorem dT_changePlaces_33 : decode prog_5_method_19_code 33 = .ok (.getfield 45, 3) := by decide +kernel
theorem dT_changePlaces_36 : decode prog_5_method_19_code 36 = .ok (.iload_n 1, 1) := by decide +kernel
theorem dT_changePlaces_37 : decode prog_5_method_19_code 37 = .ok (.iaload, 1) := by decide +kernel
theorem dT_changePlaces_38 : decode prog_5_method_19_code 38 = .ok (.istore 5, 2) := by decide +kernel
theorem dT_changePlaces_40 : decode prog_5_method_19_code 40 = .ok (.aload_n 0, 1) := by decide +kernel
theorem dT_changePlaces_41 : decode prog_5_method_19_code 41 = .ok (.getfield 48, 3) := by decide +kernel
theorem dT_changePlaces_44 : decode prog_5_method_19_code 44 = .ok (.iload_n 1, 1) := by decide +kernel
theorem dT_changePlaces_45 : decode prog_5_method_19_code 45 = .ok (.iaload, 1) := by decide +kernel
theorem dT_changePlaces_46 : decode prog_5_method_19_code 46 = .ok (.istore 6, 2) := by decide +kernel
theorem dT_changePlaces_48 : decode prog_5_method_19_code 48 = .ok (.aload_n 0, 1) := by decide +kernel
theorem dT_changePlaces_49 : decode prog_5_method_19_code 49 = .ok (.iload_n 1, 1) := by decide +kernel
theorem dT_changePlaces_50 : decode prog_5_method_19_code 50 = .ok (.aload_n 0, 1) := by decide +kernel
theorem dT_changePlaces_51 : decode prog_5_method_19_code 51 = .ok (.getfield 35, 3) := by decide +kernel
theorem dT_changePlaces_54 : decode prog_5_method_19_code 54 = .ok (.iload_n 2, 1) := by decide +kernel
theorem dT_changePlaces_55 : decode prog_5_method_19_code 55 = .ok (.iaload, 1) := by decide +kernel
theorem dT_changePlaces_56 : decode prog_5_method_19_code 56 = .ok (.aload_n 0, 1) := by decide +kernel
theorem dT_changePlaces_57 : decode prog_5_method_19_code 57 = .ok (.getfield 39, 3) := by decide +kernel
theorem dT_changePlaces_60 : decode prog_5_method_19_code 60 = .ok (.iload_n 2, 1) := by decide +kernel
theorem dT_changePlaces_61 : decode prog_5_method_19_code 61 = .ok (.iaload, 1) := by decide +kernel
theorem dT_changePlaces_62 : decode prog_5_method_19_code 62 = .ok (.aload_n 0, 1) := by decide +kernel
theorem dT_changePlaces_63 : decode prog_5_method_19_code 63 = .ok (.getfield 45, 3) := by decide +kernel
theorem dT_changePlaces_66 : decode prog_5_method_19_code 66 = .ok (.iload_n 2, 1) := by decide +kernel
theorem dT_changePlaces_67 : decode prog_5_method_19_code 67 = .ok (.iaload, 1) := by decide +kernel
theorem dT_changePlaces_68 : decode prog_5_method_19_code 68 = .ok (.aload_n 0, 1) := by decide +kernel
theorem dT_changePlaces_69 : decode prog_5_method_19_code 69 = .ok (.getfield 48, 3) := by decide +kernel
theorem dT_changePlaces_72 : decode prog_5_method_19_code 72 = .ok (.iload_n 2, 1) := by decide +kernel
theorem dT_changePlaces_73 : decode prog_5_method_19_code 73 = .ok (.iaload, 1) := by decide +kernel
theorem dT_changePlaces_74 : decode prog_5_method_19_code 74 = .ok (.invokevirtual 60, 3) := by decide +kernel
theorem dT_changePlaces_77 : decode prog_5_method_19_code 77 = .ok (.aload_n 0, 1) := by decide +kernel
theorem dT_changePlaces_78 : decode prog_5_method_19_code 78 = .ok (.iload_n 2, 1) := by decide +kernel
theorem dT_changePlaces_79 : decode prog_5_method_19_code 79 = .ok (.iload_n 3, 1) := by decide +kernel
theorem dT_changePlaces_80 : decode prog_5_method_19_code 80 = .ok (.iload 4, 2) := by decide +kernel
theorem dT_changePlaces_82 : decode prog_5_method_19_code 82 = .ok (.iload 5, 2) := by decide +kernel
theorem dT_changePlaces_84 : decode prog_5_method_19_code 84 = .ok (.iload 6, 2) := by decide +kernel
theorem dT_changePlaces_86 : decode prog_5_method_19_code 86 = .ok (.invokevirtual 60, 3) := by decide +kernel
theorem dT_changePlaces_89 : decode prog_5_method_19_code 89 = .ok (.return_, 1) := by decide +kernel
def FT_changePlaces (h0 : Hp) (a0 : Nat) (p1 : Int32) (p2 : Int32) : Option Hp :=
  gd (isO h0 a0 3 = true) ((FT_hasNode h0 a0 p1).bind (fun r2 =>
  jn (some h0)
  (fun (j3 : Option Hp) =>
  if r2 = 0 then
    (j3)
  else
    (gd (isO h0 a0 3 = true) ((FT_hasNode h0 a0 p2).bind (fun r5 =>
    if r5 = 0 then
      (j3)
    else
      (gR h0 a0 3 2 (fun a6 =>
      ldI h0 a6 0 p1 (fun x7 =>
      gR h0 a0 3 3 (fun a8 =>
      ldI h0 a8 0 p1 (fun x9 =>
      gR h0 a0 3 5 (fun a10 =>
      ldI h0 a10 0 p1 (fun x11 =>
      gR h0 a0 3 6 (fun a12 =>
      ldI h0 a12 0 p1 (fun x13 =>
      gR h0 a0 3 2 (fun a14 =>
      ldI h0 a14 0 p2 (fun x15 =>
      gR h0 a0 3 3 (fun a16 =>
      ldI h0 a16 0 p2 (fun x17 =>
      gR h0 a0 3 5 (fun a18 =>
      ldI h0 a18 0 p2 (fun x19 =>
      gR h0 a0 3 6 (fun a20 =>
      ldI h0 a20 0 p2 (fun x21 =>
      gd (isO h0 a0 3 = true) ((FT_fill h0 a0 p1 x15 x17 x19 x21).bind (fun r23 =>
      gd (isO r23 a0 3 = true) ((FT_fill r23 a0 p2 x7 x9 x11 x13).bind (fun r25 =>
      some r25)))))))))))))))))))))))))))
set_option maxRecDepth 100000 in
set_option maxHeartbeats 4000000 in
theorem mT_changePlaces (l : Launch) (h0 : Hp) (z0 : Nat) (a0 : Nat) (p1 : Int32) (p2 : Int32) (r : Hp) (hr : FT_changePlaces h0 a0 p1 p2 = some r) : vM False l yT_changePlaces (Cond.code yT_changePlaces prog_5_method_19_code 7 none :: gW) 2 [.ref a0, .int p1, .int p2] h0 z0 r z0 none 0 0 := by
  refine vM.of (by decide) rfl (Nat.le_of_ble_eq_true rfl) ?_
  intro p e s m args below meth c D dA C hin2
  refine (?_ : vO p l e (vR 2 0 0) s m args below meth c D dA (vA h0 z0) 7 False (fun r : Hp => MQ below (vQc False h0 z0 D dA r z0 none) args s 0 0 (vAr False h0 z0)) 0 0 h0 z0 [(0, .ref a0), (1, .int p1), (2, .int p2)] 0 [] (FT_changePlaces h0 a0 p1 p2)) r hr
  obtain ⟨Q, hQ⟩ : ∃ Q : Hp → State → Prop, Q = (fun r : Hp => MQ below (vQc False h0 z0 D dA r z0 none) args s 0 0 (vAr False h0 z0)) := ⟨_, rfl⟩
  rw [← hQ]
  unfold FT_changePlaces
  refine v_aload_n C dT_changePlaces_0 rfl 0 rfl ?_
  refine v_iload_n C dT_changePlaces_1 rfl 1 rfl ?_
  refine v_gd fun hO1 => ?_
  refine v_bind fun r2 hr2 => ?_
  refine v_callV0 (N := 1) (As := [.int p1]) (st := []) C (fun _ => trivial) (mT_hasNode l h0 z0 a0 p1 r2 hr2) rfl w_159 w_52 (by decide +kernel) ⟨Nat.le_of_ble_eq_true rfl, Nat.le_of_ble_eq_true rfl⟩ rfl rfl (Nat.le_of_ble_eq_true rfl) ⟨Nat.zero_le _, Nat.zero_le _⟩ w_156 w_157 w_158 v_cl3 rfl hO1 dT_changePlaces_2 ?_
  refine v_jn (fun (j : Option Hp) => vO p l e (vR 2 0 0) s m args below meth c D dA (vA h0 z0) 7 False Q 0 0 h0 z0 [] 16 [] j) ?_ (fun j3 Hj3 => ?_)
  · exact v_vret C dT_changePlaces_16 (by rw [hQ])
  · refine v_if_eq (tgt := 16) C dT_changePlaces_5 (by decide) ?_ ?_
    · refine v_lv (lv' := []) [] rfl ?_
      exact Hj3
    · refine v_aload_n C dT_changePlaces_8 rfl 0 rfl ?_
      refine v_iload_n C dT_changePlaces_9 rfl 2 rfl ?_
      refine v_gd fun hO4 => ?_
      refine v_bind fun r5 hr5 => ?_
      refine v_callV0 (N := 1) (As := [.int p2]) (st := []) C (fun _ => trivial) (mT_hasNode l h0 z0 a0 p2 r5 hr5) rfl w_159 w_52 (by decide +kernel) ⟨Nat.le_of_ble_eq_true rfl, Nat.le_of_ble_eq_true rfl⟩ rfl rfl (Nat.le_of_ble_eq_true rfl) ⟨Nat.zero_le _, Nat.zero_le _⟩ w_156 w_157 w_158 v_cl3 rfl hO4 dT_changePlaces_10 ?_
      refine v_if_ne (tgt := 17) C dT_changePlaces_13 (by decide) ?_ ?_
      · refine v_aload_n C dT_changePlaces_17 rfl 0 rfl ?_
        refine v_getR C v_cl3 (by decide) in_3 rfl w_162 dT_changePlaces_18 (fun a6 => ?_)
        refine v_iload_n C dT_changePlaces_21 rfl 1 rfl ?_
        refine v_iald C rfl dT_changePlaces_22 (fun x7 => ?_)
        refine v_istore_n (lv' := [(0, .ref a0), (1, .int p1), (2, .int p2), (3, .int x7)]) C dT_changePlaces_23 rfl (by decide) [1, 2, 3, 0] rfl ?_
        refine v_aload_n C dT_changePlaces_24 rfl 0 rfl ?_
        refine v_getR C v_cl3 (by decide) in_3 rfl w_163 dT_changePlaces_25 (fun a8 => ?_)
        refine v_iload_n C dT_changePlaces_28 rfl 1 rfl ?_
        refine v_iald C rfl dT_changePlaces_29 (fun x9 => ?_)
        refine v_istore (lv' := [(0, .ref a0), (1, .int p1), (2, .int p2), (3, .int x7), (4, .int x9)]) C dT_changePlaces_30 (by decide) [1, 2, 3, 4, 0] rfl ?_
        refine v_aload_n C dT_changePlaces_32 rfl 0 rfl ?_
        refine v_getR C v_cl3 (by decide) in_3 rfl w_165 dT_changePlaces_33 (fun a10 => ?_)
        refine v_iload_n C dT_changePlaces_36 rfl 1 rfl ?_
        refine v_iald C rfl dT_changePlaces_37 (fun x11 => ?_)
        refine v_istore (lv' := [(0, .ref a0), (1, .int p1), (2, .int p2), (3, .int x7), (4, .int x9), (5, .int x11)]) C dT_changePlaces_38 (by decide) [1, 2, 3, 4, 5, 0] rfl ?_
        refine v_aload_n C dT_changePlaces_40 rfl 0 rfl ?_
        refine v_getR C v_cl3 (by decide) in_3 rfl w_166 dT_changePlaces_41 (fun a12 => ?_)
        refine v_iload_n C dT_changePlaces_44 rfl 1 rfl ?_
        refine v_iald C rfl dT_changePlaces_45 (fun x13 => ?_)
        refine v_istore (lv' := [(0, .ref a0), (1, .int p1), (2, .int p2), (3, .int x7), (4, .int x9), (5, .int x11), (6, .int x13)]) C dT_changePlaces_46 (by decide) [1, 2, 3, 4, 5, 6, 0] rfl ?_
        refine v_aload_n C dT_changePlaces_48 rfl 0 rfl ?_
        refine v_iload_n C dT_changePlaces_49 rfl 1 rfl ?_
        refine v_aload_n C dT_changePlaces_50 rfl 0 rfl ?_
        refine v_getR C v_cl3 (by decide) in_3 rfl w_162 dT_changePlaces_51 (fun a14 => ?_)
        refine v_iload_n C dT_changePlaces_54 rfl 2 rfl ?_
        refine v_iald C rfl dT_changePlaces_55 (fun x15 => ?_)
        refine v_aload_n C dT_changePlaces_56 rfl 0 rfl ?_
        refine v_getR C v_cl3 (by decide) in_3 rfl w_163 dT_changePlaces_57 (fun a16 => ?_)
        refine v_iload_n C dT_changePlaces_60 rfl 2 rfl ?_
        refine v_iald C rfl dT_changePlaces_61 (fun x17 => ?_)
        refine v_aload_n C dT_changePlaces_62 rfl 0 rfl ?_
        refine v_getR C v_cl3 (by decide) in_3 rfl w_165 dT_changePlaces_63 (fun a18 => ?_)
        refine v_iload_n C dT_changePlaces_66 rfl 2 rfl ?_
        refine v_iald C rfl dT_changePlaces_67 (fun x19 => ?_)
        refine v_aload_n C dT_changePlaces_68 rfl 0 rfl ?_
        refine v_getR C v_cl3 (by decide) in_3 rfl w_166 dT_changePlaces_69 (fun a20 => ?_)
        refine v_iload_n C dT_changePlaces_72 rfl 2 rfl ?_
        refine v_iald C rfl dT_changePlaces_73 (fun x21 => ?_)
        refine v_gd fun hO22 => ?_
        refine v_bind fun r23 hr23 => ?_
        refine v_callV0 (N := 5) (As := [.int p1, .int x15, .int x17, .int x19, .int x21]) (st := []) C (fun f => f.elim) (mT_fill l h0 z0 a0 p1 x15 x17 x19 x21 r23 hr23) rfl w_155 w_52 (by decide +kernel) ⟨Nat.le_of_ble_eq_true rfl, Nat.le_of_ble_eq_true rfl⟩ rfl rfl (Nat.le_of_ble_eq_true rfl) ⟨Nat.zero_le _, Nat.zero_le _⟩ w_152 w_154 w_1 v_cl3 rfl hO22 dT_changePlaces_74 ?_
        refine v_aload_n C dT_changePlaces_77 rfl 0 rfl ?_
        refine v_iload_n C dT_changePlaces_78 rfl 2 rfl ?_
        refine v_iload_n C dT_changePlaces_79 rfl 3 rfl ?_
        refine v_iload C dT_changePlaces_80 4 rfl ?_
        refine v_iload C dT_changePlaces_82 5 rfl ?_
        refine v_iload C dT_changePlaces_84 6 rfl ?_
        refine v_gd fun hO24 => ?_
        refine v_bind fun r25 hr25 => ?_
        refine v_callV0 (N := 5) (As := [.int p2, .int x7, .int x9, .int x11, .int x13]) (st := []) C (fun f => f.elim) (mT_fill l r23 z0 a0 p2 x7 x9 x11 x13 r25 hr25) rfl w_155 w_52 (by decide +kernel) ⟨Nat.le_of_ble_eq_true rfl, Nat.le_of_ble_eq_true rfl⟩ rfl rfl (Nat.le_of_ble_eq_true rfl) ⟨Nat.zero_le _, Nat.zero_le _⟩ w_152 w_154 w_1 v_cl3 rfl hO24 dT_changePlaces_86 ?_
        exact v_vret C dT_changePlaces_89 (by rw [hQ])
      · refine v_lv (lv' := []) [] rfl ?_
        exact Hj3
theorem dT_stepCounted_0 : decode prog_5_method_17_code 0 = .ok (.aload_n 0, 1) := by decide +kernel
theorem dT_stepCounted_1 : decode prog_5_method_17_code 1 = .ok (.iload_n 1, 1) := by decide +kernel
theorem dT_stepCounted_2 : decode prog_5_method_17_code 2 = .ok (.invokevirtual 68, 3) := by decide +kernel
theorem dT_stepCounted_5 : decode prog_5_method_17_code 5 = .ok (.istore_n 2, 1) := by decide +kernel
theorem dT_stepCounted_6 : decode prog_5_method_17_code 6 = .ok (.iconst 0, 1) := by decide +kernel
theorem dT_stepCounted_7 : decode prog_5_method_17_code 7 = .ok (.istore_n 3, 1) := by decide +kernel
theorem dT_stepCounted_8 : decode prog_5_method_17_code 8 = .ok (.aload_n 0, 1) := by decide +kernel
theorem dT_stepCounted_9 : decode prog_5_method_17_code 9 = .ok (.iload_n 2, 1) := by decide +kernel
theorem dT_stepCounted_10 : decode prog_5_method_17_code 10 = .ok (.invokevirtual 64, 3) := by decide +kernel
theorem dT_stepCounted_13 : decode prog_5_method_17_code 13 = .ok (.ifCond .eq 57, 3) := by decide +kernel
theorem dT_stepCounted_16 : decode prog_5_method_17_code 16 = .ok (.iload_n 3, 1) := by decide +kernel
theorem dT_stepCounted_17 : decode prog_5_method_17_code 17 = .ok (.aload_n 0, 1) := by decide +kernel
theorem dT_stepCounted_18 : decode prog_5_method_17_code 18 = .ok (.getfield 15, 3) := by decide +kernel
theorem dT_stepCounted_21 : decode prog_5_method_17_code 21 = .ok (.if_icmp .ge 49, 3) := by decide +kernel
theorem dT_stepCounted_24 : decode prog_5_method_17_code 24 = .ok (.aload_n 0, 1) := by decide +kernel
theorem dT_stepCounted_25 : decode prog_5_method_17_code 25 = .ok (.iload_n 2, 1) := by decide +kernel
theorem dT_stepCounted_26 : decode prog_5_method_17_code 26 = .ok (.invokevirtual 105, 3) := by decide +kernel
theorem dT_stepCounted_29 : decode prog_5_method_17_code 29 = .ok (.istore 4, 2) := by decide +kernel
theorem dT_stepCounted_31 : decode prog_5_method_17_code 31 = .ok (.iload 4, 2) := by decide +kernel
theorem dT_stepCounted_33 : decode prog_5_method_17_code 33 = .ok (.iload_n 2, 1) := by decide +kernel
theorem dT_stepCounted_34 : decode prog_5_method_17_code 34 = .ok (.if_icmp .ge 13, 3) := by decide +kernel
theorem dT_stepCounted_37 : decode prog_5_method_17_code 37 = .ok (.aload_n 0, 1) := by decide +kernel
theorem dT_stepCounted_38 : decode prog_5_method_17_code 38 = .ok (.iload 4, 2) := by decide +kernel
theorem dT_stepCounted_40 : decode prog_5_method_17_code 40 = .ok (.iload_n 2, 1) := by decide +kernel
theorem dT_stepCounted_41 : decode prog_5_method_17_code 41 = .ok (.invokevirtual 108, 3) := by decide +kernel
theorem dT_stepCounted_44 : decode prog_5_method_17_code 44 = .ok (.iload 4, 2) := by decide +kernel
theorem dT_stepCounted_46 : decode prog_5_method_17_code 46 = .ok (.istore_n 2, 1) := by decide +kernel
theorem dT_stepCounted_47 : decode prog_5_method_17_code 47 = .ok (.aload_n 0, 1) := by decide +kernel
theorem dT_stepCounted_48 : decode prog_5_method_17_code 48 = .ok (.getfield 35, 3) := by decide +kernel
theorem dT_stepCounted_51 : decode prog_5_method_17_code 51 = .ok (.iload_n 2, 1) := by decide +kernel
theorem dT_stepCounted_52 : decode prog_5_method_17_code 52 = .ok (.dup2, 1) := by decide +kernel
theorem dT_stepCounted_53 : decode prog_5_method_17_code 53 = .ok (.iaload, 1) := by decide +kernel
theorem dT_stepCounted_54 : decode prog_5_method_17_code 54 = .ok (.iconst 1, 1) := by decide +kernel
theorem dT_stepCounted_55 : decode prog_5_method_17_code 55 = .ok (.iadd, 1) := by decide +kernel
theorem dT_stepCounted_56 : decode prog_5_method_17_code 56 = .ok (.iastore, 1) := by decide +kernel
theorem dT_stepCounted_57 : decode prog_5_method_17_code 57 = .ok (.aload_n 0, 1) := by decide +kernel
theorem dT_stepCounted_58 : decode prog_5_method_17_code 58 = .ok (.getfield 42, 3) := by decide +kernel
theorem dT_stepCounted_61 : decode prog_5_method_17_code 61 = .ok (.iload_n 2, 1) := by decide +kernel
theorem dT_stepCounted_62 : decode prog_5_method_17_code 62 = .ok (.iaload, 1) := by decide +kernel
theorem dT_stepCounted_63 : decode prog_5_method_17_code 63 = .ok (.istore_n 2, 1) := by decide +kernel
theorem dT_stepCounted_64 : decode prog_5_method_17_code 64 = .ok (.iinc 3 1, 3) := by decide +kernel
theorem dT_stepCounted_67 : decode prog_5_method_17_code 67 = .ok (.goto (-59), 3) := by decide +kernel
theorem dT_stepCounted_70 : decode prog_5_method_17_code 70 = .ok (.return_, 1) := by decide +kernel
def LT_stepCounted_8 (a0 : Nat) (K4 : Hp → Option Hp) (rec8 : Hp → Int32 → Int32 → Option Hp) (h5 : Hp) (x6 : Int32) (x7 : Int32) : Option Hp :=
  gd (isO h5 a0 3 = true) ((FT_hasNode h5 a0 x6).bind (fun r10 =>
  if r10 = 0 then
    (K4 h5)
  else
    (gI h5 a0 3 9 (fun x11 =>
    if x11 ≤ x7 then
      (K4 h5)
    else
      (gd (isO h5 a0 3 = true) ((FT_leastPlaceToChange h5 a0 x6).bind (fun r13 =>
      jn (fun (h14 : Hp) (x15 : Int32) =>
      gR h14 a0 3 2 (fun a17 =>
      ldI h14 a17 0 x15 (fun x18 =>
      stI h14 a17 0 x15 (x18 + 1) (fun h19 =>
      gR h19 a0 3 4 (fun a20 =>
      ldI h19 a20 0 x15 (fun x21 =>
      rec8 h19 x21 (x7 + 1)))))))
      (fun (j16 : Hp → Int32 → Option Hp) =>
      if x6 ≤ r13 then
        (j16 h5 x6)
      else
        (gd (isO h5 a0 3 = true) ((FT_changePlaces h5 a0 r13 x6).bind (fun r23 =>
        j16 r23 r13)))))))))))
def FT_stepCounted (h0 : Hp) (a0 : Nat) (p1 : Int32) : Option Hp :=
  gd (isO h0 a0 3 = true) ((FT_leafOf h0 a0 p1).bind (fun r2 =>
  jn (fun (h3 : Hp) =>
  some h3)
  (fun (K4 : Hp → Option Hp) =>
  lpG (fun _ _ _ => none) fu (LT_stepCounted_8 a0 K4) h0 r2 0)))
set_option maxRecDepth 100000 in
set_option maxHeartbeats 4000000 in
theorem mT_stepCounted (l : Launch) (h0 : Hp) (z0 : Nat) (a0 : Nat) (p1 : Int32) (r : Hp) (hr : FT_stepCounted h0 a0 p1 = some r) : vM False l yT_stepCounted (Cond.code yT_stepCounted prog_5_method_17_code 5 none :: gW) 3 [.ref a0, .int p1] h0 z0 r z0 none 0 0 := by
  refine vM.of (by decide) rfl (Nat.le_of_ble_eq_true rfl) ?_
  intro p e s m args below meth c D dA C hin2
  refine (?_ : vO p l e (vR 3 0 0) s m args below meth c D dA (vA h0 z0) 5 False (fun r : Hp => MQ below (vQc False h0 z0 D dA r z0 none) args s 0 0 (vAr False h0 z0)) 0 0 h0 z0 [(0, .ref a0), (1, .int p1)] 0 [] (FT_stepCounted h0 a0 p1)) r hr
  obtain ⟨Q, hQ⟩ : ∃ Q : Hp → State → Prop, Q = (fun r : Hp => MQ below (vQc False h0 z0 D dA r z0 none) args s 0 0 (vAr False h0 z0)) := ⟨_, rfl⟩
  rw [← hQ]
  unfold FT_stepCounted
  refine v_aload_n C dT_stepCounted_0 rfl 0 rfl ?_
  refine v_iload_n C dT_stepCounted_1 rfl 1 rfl ?_
  refine v_gd fun hO1 => ?_
  refine v_bind fun r2 hr2 => ?_
  refine v_callV0 (N := 1) (As := [.int p1]) (st := []) C (fun _ => trivial) (mT_leafOf l h0 z0 a0 p1 r2 hr2) rfl w_285 w_52 (by decide +kernel) ⟨Nat.le_of_ble_eq_true rfl, Nat.le_of_ble_eq_true rfl⟩ rfl rfl (Nat.le_of_ble_eq_true rfl) ⟨Nat.zero_le _, Nat.zero_le _⟩ w_282 w_283 w_284 v_cl3 rfl hO1 dT_stepCounted_2 ?_
  refine v_istore_n (lv' := [(0, .ref a0), (2, .int r2)]) C dT_stepCounted_5 rfl (by decide) [1, 0] rfl ?_
  refine v_iconst (v := 0) C dT_stepCounted_6 (by decide) ?_
  refine v_istore_n (lv' := [(0, .ref a0), (2, .int r2), (3, .int 0)]) C dT_stepCounted_7 rfl (by decide) [1, 2, 0] rfl ?_
  refine v_jn (fun (j : Hp → Option Hp) => ∀ (h3 : Hp), vO p l e (vR 3 0 0) s m args below meth c D dA (vA h0 z0) 5 False Q 0 0 h3 z0 [] 70 [] (j h3)) ?_ (fun K4 HK4 => ?_)
  · intro h3
    exact v_vret C dT_stepCounted_70 (by rw [hQ])
  · refine lpG_ind (bot := (fun _ _ _ => none)) (B := LT_stepCounted_8 a0 K4) (fun (r : Hp → Int32 → Int32 → Option Hp) => ∀ (h5 : Hp), ∀ (x6 : Int32), ∀ (x7 : Int32), vO p l e (vR 3 0 0) s m args below meth c D dA (vA h0 z0) 5 False Q 0 0 h5 z0 [(0, .ref a0), (2, .int x6), (3, .int x7)] 8 [] (r h5 x6 x7)) ?_ ?_ fu h0 r2 0
    · intro h5 x6 x7
      exact v_none
    · intro rec8 Hrec8 h5 x6 x7
      unfold LT_stepCounted_8
      refine v_aload_n C dT_stepCounted_8 rfl 0 rfl ?_
      refine v_iload_n C dT_stepCounted_9 rfl 1 rfl ?_
      refine v_gd fun hO9 => ?_
      refine v_bind fun r10 hr10 => ?_
      refine v_callV0 (N := 1) (As := [.int x6]) (st := []) C (fun _ => trivial) (mT_hasNode l h5 z0 a0 x6 r10 hr10) rfl w_159 w_52 (by decide +kernel) ⟨Nat.le_of_ble_eq_true rfl, Nat.le_of_ble_eq_true rfl⟩ rfl rfl (Nat.le_of_ble_eq_true rfl) ⟨Nat.zero_le _, Nat.zero_le _⟩ w_156 w_157 w_158 v_cl3 rfl hO9 dT_stepCounted_10 ?_
      refine v_if_eq (tgt := 70) C dT_stepCounted_13 (by decide) ?_ ?_
      · refine v_lv (lv' := []) [] rfl ?_
        exact HK4 h5
      · refine v_iload_n C dT_stepCounted_16 rfl 2 rfl ?_
        refine v_aload_n C dT_stepCounted_17 rfl 0 rfl ?_
        refine v_getI C v_cl3 (by decide) in_3 rfl w_170 dT_stepCounted_18 (fun x11 => ?_)
        refine v_icmp_ge (tgt := 70) C dT_stepCounted_21 (by decide) ?_ ?_
        · refine v_lv (lv' := []) [] rfl ?_
          exact HK4 h5
        · refine v_aload_n C dT_stepCounted_24 rfl 0 rfl ?_
          refine v_iload_n C dT_stepCounted_25 rfl 1 rfl ?_
          refine v_gd fun hO12 => ?_
          refine v_bind fun r13 hr13 => ?_
          refine v_callV0 (N := 1) (As := [.int x6]) (st := []) C (fun _ => trivial) (mT_leastPlaceToChange l h5 z0 a0 x6 r13 hr13) rfl w_340 w_52 (by decide +kernel) ⟨Nat.le_of_ble_eq_true rfl, Nat.le_of_ble_eq_true rfl⟩ rfl rfl (Nat.le_of_ble_eq_true rfl) ⟨Nat.zero_le _, Nat.zero_le _⟩ w_337 w_339 w_9 v_cl3 rfl hO12 dT_stepCounted_26 ?_
          refine v_istore (lv' := [(0, .ref a0), (2, .int x6), (3, .int x7), (4, .int r13)]) C dT_stepCounted_29 (by decide) [1, 2, 3, 0] rfl ?_
          refine v_iload C dT_stepCounted_31 3 rfl ?_
          refine v_iload_n C dT_stepCounted_33 rfl 1 rfl ?_
          refine v_jn (fun (j : Hp → Int32 → Option Hp) => ∀ (h14 : Hp), ∀ (x15 : Int32), vO p l e (vR 3 0 0) s m args below meth c D dA (vA h0 z0) 5 False Q 0 0 h14 z0 [(0, .ref a0), (2, .int x15), (3, .int x7)] 47 [] (j h14 x15)) ?_ (fun j16 Hj16 => ?_)
          · intro h14 x15
            refine v_aload_n C dT_stepCounted_47 rfl 0 rfl ?_
            refine v_getR C v_cl3 (by decide) in_3 rfl w_162 dT_stepCounted_48 (fun a17 => ?_)
            refine v_iload_n C dT_stepCounted_51 rfl 1 rfl ?_
            refine v_dup2 C dT_stepCounted_52 rfl rfl ?_
            refine v_iald C rfl dT_stepCounted_53 (fun x18 => ?_)
            refine v_iconst (v := 1) C dT_stepCounted_54 (by decide) ?_
            refine v_iadd C dT_stepCounted_55 ?_
            refine v_iast C rfl dT_stepCounted_56 (fun h19 => ?_)
            refine v_aload_n C dT_stepCounted_57 rfl 0 rfl ?_
            refine v_getR C v_cl3 (by decide) in_3 rfl w_164 dT_stepCounted_58 (fun a20 => ?_)
            refine v_iload_n C dT_stepCounted_61 rfl 1 rfl ?_
            refine v_iald C rfl dT_stepCounted_62 (fun x21 => ?_)
            refine v_istore_n (lv' := [(0, .ref a0), (2, .int x21), (3, .int x7)]) C dT_stepCounted_63 rfl (by decide) [1, 0, 2] rfl ?_
            refine v_iinc (v := (x7 + 1)) (lv' := [(0, .ref a0), (2, .int x21), (3, .int (x7 + 1))]) C dT_stepCounted_64 2 rfl rfl (by decide) [1, 2, 0] rfl ?_
            refine v_goto (tgt := 8) C dT_stepCounted_67 (by decide) ?_
            exact Hrec8 h19 x21 (x7 + 1)
          · refine v_icmp_ge (tgt := 47) C dT_stepCounted_34 (by decide) ?_ ?_
            · refine v_lv (lv' := [(0, .ref a0), (2, .int x6), (3, .int x7)]) [0, 1, 2] rfl ?_
              exact Hj16 h5 x6
            · refine v_aload_n C dT_stepCounted_37 rfl 0 rfl ?_
              refine v_iload C dT_stepCounted_38 3 rfl ?_
              refine v_iload_n C dT_stepCounted_40 rfl 1 rfl ?_
              refine v_gd fun hO22 => ?_
              refine v_bind fun r23 hr23 => ?_
              refine v_callV0 (N := 2) (As := [.int r13, .int x6]) (st := []) C (fun f => f.elim) (mT_changePlaces l h5 z0 a0 r13 x6 r23 hr23) rfl w_348 w_52 (by decide +kernel) ⟨Nat.le_of_ble_eq_true rfl, Nat.le_of_ble_eq_true rfl⟩ rfl rfl (Nat.le_of_ble_eq_true rfl) ⟨Nat.zero_le _, Nat.zero_le _⟩ w_345 w_347 w_10 v_cl3 rfl hO22 dT_stepCounted_41 ?_
              refine v_iload C dT_stepCounted_44 3 rfl ?_
              refine v_istore_n (lv' := [(0, .ref a0), (2, .int r13), (3, .int x7)]) C dT_stepCounted_46 rfl (by decide) [1, 0, 2] rfl ?_
              exact Hj16 r23 r13
theorem dT_signAt_0 : decode prog_5_method_10_code 0 = .ok (.aload_n 0, 1) := by decide +kernel
theorem dT_signAt_1 : decode prog_5_method_10_code 1 = .ok (.iload_n 1, 1) := by decide +kernel
theorem dT_signAt_2 : decode prog_5_method_10_code 2 = .ok (.invokevirtual 64, 3) := by decide +kernel
theorem dT_signAt_5 : decode prog_5_method_10_code 5 = .ok (.ifCond .eq 12, 3) := by decide +kernel
theorem dT_signAt_8 : decode prog_5_method_10_code 8 = .ok (.aload_n 0, 1) := by decide +kernel
theorem dT_signAt_9 : decode prog_5_method_10_code 9 = .ok (.getfield 39, 3) := by decide +kernel
theorem dT_signAt_12 : decode prog_5_method_10_code 12 = .ok (.iload_n 1, 1) := by decide +kernel
theorem dT_signAt_13 : decode prog_5_method_10_code 13 = .ok (.iaload, 1) := by decide +kernel
theorem dT_signAt_14 : decode prog_5_method_10_code 14 = .ok (.goto 4, 3) := by decide +kernel
theorem dT_signAt_17 : decode prog_5_method_10_code 17 = .ok (.iconst (-1), 1) := by decide +kernel
theorem dT_signAt_18 : decode prog_5_method_10_code 18 = .ok (.ireturn, 1) := by decide +kernel
def FT_signAt (h0 : Hp) (a0 : Nat) (p1 : Int32) : Option Int32 :=
  gd (isO h0 a0 3 = true) ((FT_hasNode h0 a0 p1).bind (fun r2 =>
  jn (fun (y3 : Int32) =>
  some y3)
  (fun (j4 : Int32 → Option Int32) =>
  if r2 = 0 then
    (j4 (-1))
  else
    (gR h0 a0 3 3 (fun a5 =>
    ldI h0 a5 0 p1 (fun x6 =>
    j4 x6))))))
set_option maxRecDepth 100000 in
set_option maxHeartbeats 4000000 in
theorem mT_signAt (l : Launch) (h0 : Hp) (z0 : Nat) (a0 : Nat) (p1 : Int32) (r : Int32) (hr : FT_signAt h0 a0 p1 = some r) : vM True l yT_signAt (Cond.code yT_signAt prog_5_method_10_code 2 (some (.int)) :: gW) 1 [.ref a0, .int p1] h0 z0 h0 z0 (some (.int r)) 0 0 := by
  refine vM.of (by decide) rfl (Nat.le_of_ble_eq_true rfl) ?_
  intro p e s m args below meth c D dA C hin2
  refine (?_ : vO p l e (vR 1 0 0) s m args below meth c D dA (vA h0 z0) 2 True (fun r : Int32 => MQ below (vQc True h0 z0 D dA h0 z0 (some (.int r))) args s 0 0 (vAr True h0 z0)) 0 0 h0 z0 [(0, .ref a0), (1, .int p1)] 0 [] (FT_signAt h0 a0 p1)) r hr
  obtain ⟨Q, hQ⟩ : ∃ Q : Int32 → State → Prop, Q = (fun r : Int32 => MQ below (vQc True h0 z0 D dA h0 z0 (some (.int r))) args s 0 0 (vAr True h0 z0)) := ⟨_, rfl⟩
  rw [← hQ]
  unfold FT_signAt
  refine v_aload_n C dT_signAt_0 rfl 0 rfl ?_
  refine v_iload_n C dT_signAt_1 rfl 1 rfl ?_
  refine v_gd fun hO1 => ?_
  refine v_bind fun r2 hr2 => ?_
  refine v_callV0 (N := 1) (As := [.int p1]) (st := []) C (fun _ => trivial) (mT_hasNode l h0 z0 a0 p1 r2 hr2) rfl w_159 w_52 (by decide +kernel) ⟨Nat.le_of_ble_eq_true rfl, Nat.le_of_ble_eq_true rfl⟩ rfl rfl (Nat.le_of_ble_eq_true rfl) ⟨Nat.zero_le _, Nat.zero_le _⟩ w_156 w_157 w_158 v_cl3 rfl hO1 dT_signAt_2 ?_
  refine v_jn (fun (j : Int32 → Option Int32) => ∀ (y3 : Int32), vO p l e (vR 1 0 0) s m args below meth c D dA (vA h0 z0) 2 True Q 0 0 h0 z0 [] 18 [.int y3] (j y3)) ?_ (fun j4 Hj4 => ?_)
  · intro y3
    exact v_iret C dT_signAt_18 (by rw [hQ])
  · refine v_if_eq (tgt := 17) C dT_signAt_5 (by decide) ?_ ?_
    · refine v_iconst (v := (-1)) C dT_signAt_17 (by decide) ?_
      refine v_lv (lv' := []) [] rfl ?_
      exact Hj4 (-1)
    · refine v_aload_n C dT_signAt_8 rfl 0 rfl ?_
      refine v_getR C v_cl3 (by decide) in_3 rfl w_163 dT_signAt_9 (fun a5 => ?_)
      refine v_iload_n C dT_signAt_12 rfl 1 rfl ?_
      refine v_iald C rfl dT_signAt_13 (fun x6 => ?_)
      refine v_goto (tgt := 18) C dT_signAt_14 (by decide) ?_
      refine v_lv (lv' := []) [] rfl ?_
      exact Hj4 x6
theorem dP_has_0 : decode prog_3_method_4_code 0 = .ok (.iload_n 1, 1) := by decide +kernel
theorem dP_has_1 : decode prog_3_method_4_code 1 = .ok (.ifCond .lt 24, 3) := by decide +kernel
theorem dP_has_4 : decode prog_3_method_4_code 4 = .ok (.iload_n 1, 1) := by decide +kernel
theorem dP_has_5 : decode prog_3_method_4_code 5 = .ok (.aload_n 0, 1) := by decide +kernel
theorem dP_has_6 : decode prog_3_method_4_code 6 = .ok (.getfield 9, 3) := by decide +kernel
theorem dP_has_9 : decode prog_3_method_4_code 9 = .ok (.if_icmp .ge 16, 3) := by decide +kernel
theorem dP_has_12 : decode prog_3_method_4_code 12 = .ok (.iload_n 1, 1) := by decide +kernel
theorem dP_has_13 : decode prog_3_method_4_code 13 = .ok (.aload_n 0, 1) := by decide +kernel
theorem dP_has_14 : decode prog_3_method_4_code 14 = .ok (.getfield 15, 3) := by decide +kernel
theorem dP_has_17 : decode prog_3_method_4_code 17 = .ok (.arraylength, 1) := by decide +kernel
theorem dP_has_18 : decode prog_3_method_4_code 18 = .ok (.if_icmp .ge 7, 3) := by decide +kernel
theorem dP_has_21 : decode prog_3_method_4_code 21 = .ok (.iconst 1, 1) := by decide +kernel
theorem dP_has_22 : decode prog_3_method_4_code 22 = .ok (.goto 4, 3) := by decide +kernel
theorem dP_has_25 : decode prog_3_method_4_code 25 = .ok (.iconst 0, 1) := by decide +kernel
theorem dP_has_26 : decode prog_3_method_4_code 26 = .ok (.ireturn, 1) := by decide +kernel
def FP_has (h0 : Hp) (a0 : Nat) (p1 : Int32) : Option Int32 :=
  jn (fun (y1 : Int32) =>
  gd (y1 = 0 ∨ y1 = 1) (some y1))
  (fun (j2 : Int32 → Option Int32) =>
  jn (j2 0)
  (fun (j3 : Option Int32) =>
  if p1 < 0 then
    (j3)
  else
    (gI h0 a0 1 3 (fun x4 =>
    if x4 ≤ p1 then
      (j3)
    else
      (gR h0 a0 1 0 (fun a5 =>
      alen h0 a5 0 (fun x6 =>
      if x6 ≤ p1 then
        (j3)
      else
        (j2 1))))))))
set_option maxRecDepth 100000 in
set_option maxHeartbeats 4000000 in
theorem mP_has (l : Launch) (h0 : Hp) (z0 : Nat) (a0 : Nat) (p1 : Int32) (r : Int32) (hr : FP_has h0 a0 p1 = some r) : vM True l yP_has (Cond.code yP_has prog_3_method_4_code 2 (some (.boolean)) :: gW) 0 [.ref a0, .int p1] h0 z0 h0 z0 (some (.int r)) 0 0 := by
  refine vM.of (by decide) rfl (Nat.le_of_ble_eq_true rfl) ?_
  intro p e s m args below meth c D dA C hin2
  refine (?_ : vO p l e (vR 0 0 0) s m args below meth c D dA (vA h0 z0) 2 True (fun r : Int32 => MQ below (vQc True h0 z0 D dA h0 z0 (some (.int r))) args s 0 0 (vAr True h0 z0)) 0 0 h0 z0 [(0, .ref a0), (1, .int p1)] 0 [] (FP_has h0 a0 p1)) r hr
  obtain ⟨Q, hQ⟩ : ∃ Q : Int32 → State → Prop, Q = (fun r : Int32 => MQ below (vQc True h0 z0 D dA h0 z0 (some (.int r))) args s 0 0 (vAr True h0 z0)) := ⟨_, rfl⟩
  rw [← hQ]
  unfold FP_has
  refine v_iload_n C dP_has_0 rfl 1 rfl ?_
  refine v_jn (fun (j : Int32 → Option Int32) => ∀ (y1 : Int32), vO p l e (vR 0 0 0) s m args below meth c D dA (vA h0 z0) 2 True Q 0 0 h0 z0 [] 26 [.int y1] (j y1)) ?_ (fun j2 Hj2 => ?_)
  · intro y1
    exact v_zret C dP_has_26 (by rw [hQ])
  · refine v_jn (fun (j : Option Int32) => vO p l e (vR 0 0 0) s m args below meth c D dA (vA h0 z0) 2 True Q 0 0 h0 z0 [] 25 [] j) ?_ (fun j3 Hj3 => ?_)
    · refine v_iconst (v := 0) C dP_has_25 (by decide) ?_
      exact Hj2 0
    · refine v_if_lt (tgt := 25) C dP_has_1 (by decide) ?_ ?_
      · refine v_lv (lv' := []) [] rfl ?_
        exact Hj3
      · refine v_iload_n C dP_has_4 rfl 1 rfl ?_
        refine v_aload_n C dP_has_5 rfl 0 rfl ?_
        refine v_getI C v_cl1 (by decide) in_1 rfl w_131 dP_has_6 (fun x4 => ?_)
        refine v_icmp_ge (tgt := 25) C dP_has_9 (by decide) ?_ ?_
        · refine v_lv (lv' := []) [] rfl ?_
          exact Hj3
        · refine v_iload_n C dP_has_12 rfl 1 rfl ?_
          refine v_aload_n C dP_has_13 rfl 0 rfl ?_
          refine v_getR C v_cl1 (by decide) in_1 rfl w_125 dP_has_14 (fun a5 => ?_)
          refine v_alen C rfl dP_has_17 (fun x6 => ?_)
          refine v_icmp_ge (tgt := 25) C dP_has_18 (by decide) ?_ ?_
          · refine v_lv (lv' := []) [] rfl ?_
            exact Hj3
          · refine v_iconst (v := 1) C dP_has_21 (by decide) ?_
            refine v_goto (tgt := 26) C dP_has_22 (by decide) ?_
            refine v_lv (lv' := []) [] rfl ?_
            exact Hj2 1
theorem dP_set_0 : decode prog_3_method_5_code 0 = .ok (.aload_n 0, 1) := by decide +kernel
theorem dP_set_1 : decode prog_3_method_5_code 1 = .ok (.iload_n 1, 1) := by decide +kernel
theorem dP_set_2 : decode prog_3_method_5_code 2 = .ok (.invokevirtual 29, 3) := by decide +kernel
theorem dP_set_5 : decode prog_3_method_5_code 5 = .ok (.ifCond .eq 25, 3) := by decide +kernel
theorem dP_set_8 : decode prog_3_method_5_code 8 = .ok (.aload_n 0, 1) := by decide +kernel
theorem dP_set_9 : decode prog_3_method_5_code 9 = .ok (.getfield 15, 3) := by decide +kernel
theorem dP_set_12 : decode prog_3_method_5_code 12 = .ok (.iload_n 1, 1) := by decide +kernel
theorem dP_set_13 : decode prog_3_method_5_code 13 = .ok (.iload_n 2, 1) := by decide +kernel
theorem dP_set_14 : decode prog_3_method_5_code 14 = .ok (.iastore, 1) := by decide +kernel
theorem dP_set_15 : decode prog_3_method_5_code 15 = .ok (.aload_n 0, 1) := by decide +kernel
theorem dP_set_16 : decode prog_3_method_5_code 16 = .ok (.getfield 19, 3) := by decide +kernel
theorem dP_set_19 : decode prog_3_method_5_code 19 = .ok (.iload_n 1, 1) := by decide +kernel
theorem dP_set_20 : decode prog_3_method_5_code 20 = .ok (.iload_n 3, 1) := by decide +kernel
theorem dP_set_21 : decode prog_3_method_5_code 21 = .ok (.iastore, 1) := by decide +kernel
theorem dP_set_22 : decode prog_3_method_5_code 22 = .ok (.aload_n 0, 1) := by decide +kernel
theorem dP_set_23 : decode prog_3_method_5_code 23 = .ok (.getfield 22, 3) := by decide +kernel
theorem dP_set_26 : decode prog_3_method_5_code 26 = .ok (.iload_n 1, 1) := by decide +kernel
theorem dP_set_27 : decode prog_3_method_5_code 27 = .ok (.iload 4, 2) := by decide +kernel
theorem dP_set_29 : decode prog_3_method_5_code 29 = .ok (.iastore, 1) := by decide +kernel
theorem dP_set_30 : decode prog_3_method_5_code 30 = .ok (.return_, 1) := by decide +kernel
def FP_set (h0 : Hp) (a0 : Nat) (p1 : Int32) (p2 : Int32) (p3 : Int32) (p4 : Int32) : Option Hp :=
  gd (isO h0 a0 1 = true) ((FP_has h0 a0 p1).bind (fun r2 =>
  jn (fun (h3 : Hp) =>
  some h3)
  (fun (j4 : Hp → Option Hp) =>
  if r2 = 0 then
    (j4 h0)
  else
    (gR h0 a0 1 0 (fun a5 =>
    stI h0 a5 0 p1 p2 (fun h6 =>
    gR h6 a0 1 1 (fun a7 =>
    stI h6 a7 0 p1 p3 (fun h8 =>
    gR h8 a0 1 2 (fun a9 =>
    stI h8 a9 0 p1 p4 (fun h10 =>
    j4 h10))))))))))
set_option maxRecDepth 100000 in
set_option maxHeartbeats 4000000 in
theorem mP_set (l : Launch) (h0 : Hp) (z0 : Nat) (a0 : Nat) (p1 : Int32) (p2 : Int32) (p3 : Int32) (p4 : Int32) (r : Hp) (hr : FP_set h0 a0 p1 p2 p3 p4 = some r) : vM False l yP_set (Cond.code yP_set prog_3_method_5_code 5 none :: gW) 1 [.ref a0, .int p1, .int p2, .int p3, .int p4] h0 z0 r z0 none 0 0 := by
  refine vM.of (by decide) rfl (Nat.le_of_ble_eq_true rfl) ?_
  intro p e s m args below meth c D dA C hin2
  refine (?_ : vO p l e (vR 1 0 0) s m args below meth c D dA (vA h0 z0) 5 False (fun r : Hp => MQ below (vQc False h0 z0 D dA r z0 none) args s 0 0 (vAr False h0 z0)) 0 0 h0 z0 [(0, .ref a0), (1, .int p1), (2, .int p2), (3, .int p3), (4, .int p4)] 0 [] (FP_set h0 a0 p1 p2 p3 p4)) r hr
  obtain ⟨Q, hQ⟩ : ∃ Q : Hp → State → Prop, Q = (fun r : Hp => MQ below (vQc False h0 z0 D dA r z0 none) args s 0 0 (vAr False h0 z0)) := ⟨_, rfl⟩
  rw [← hQ]
  unfold FP_set
  refine v_aload_n C dP_set_0 rfl 0 rfl ?_
  refine v_iload_n C dP_set_1 rfl 1 rfl ?_
  refine v_gd fun hO1 => ?_
  refine v_bind fun r2 hr2 => ?_
  refine v_callV0 (N := 1) (As := [.int p1]) (st := []) C (fun _ => trivial) (mP_has l h0 z0 a0 p1 r2 hr2) rfl w_372 w_51 (by decide +kernel) ⟨Nat.le_of_ble_eq_true rfl, Nat.le_of_ble_eq_true rfl⟩ rfl rfl (Nat.le_of_ble_eq_true rfl) ⟨Nat.zero_le _, Nat.zero_le _⟩ w_369 w_370 w_371 v_cl1 rfl hO1 dP_set_2 ?_
  refine v_jn (fun (j : Hp → Option Hp) => ∀ (h3 : Hp), vO p l e (vR 1 0 0) s m args below meth c D dA (vA h0 z0) 5 False Q 0 0 h3 z0 [] 30 [] (j h3)) ?_ (fun j4 Hj4 => ?_)
  · intro h3
    exact v_vret C dP_set_30 (by rw [hQ])
  · refine v_if_eq (tgt := 30) C dP_set_5 (by decide) ?_ ?_
    · refine v_lv (lv' := []) [] rfl ?_
      exact Hj4 h0
    · refine v_aload_n C dP_set_8 rfl 0 rfl ?_
      refine v_getR C v_cl1 (by decide) in_1 rfl w_125 dP_set_9 (fun a5 => ?_)
      refine v_iload_n C dP_set_12 rfl 1 rfl ?_
      refine v_iload_n C dP_set_13 rfl 2 rfl ?_
      refine v_iast C rfl dP_set_14 (fun h6 => ?_)
      refine v_aload_n C dP_set_15 rfl 0 rfl ?_
      refine v_getR C v_cl1 (by decide) in_1 rfl w_127 dP_set_16 (fun a7 => ?_)
      refine v_iload_n C dP_set_19 rfl 1 rfl ?_
      refine v_iload_n C dP_set_20 rfl 3 rfl ?_
      refine v_iast C rfl dP_set_21 (fun h8 => ?_)
      refine v_aload_n C dP_set_22 rfl 0 rfl ?_
      refine v_getR C v_cl1 (by decide) in_1 rfl w_129 dP_set_23 (fun a9 => ?_)
      refine v_iload_n C dP_set_26 rfl 1 rfl ?_
      refine v_iload C dP_set_27 4 rfl ?_
      refine v_iast C rfl dP_set_29 (fun h10 => ?_)
      refine v_lv (lv' := []) [] rfl ?_
      exact Hj4 h10
theorem dP_append_0 : decode prog_3_method_2_code 0 = .ok (.aload_n 0, 1) := by decide +kernel
theorem dP_append_1 : decode prog_3_method_2_code 1 = .ok (.getfield 9, 3) := by decide +kernel
theorem dP_append_4 : decode prog_3_method_2_code 4 = .ok (.aload_n 0, 1) := by decide +kernel
theorem dP_append_5 : decode prog_3_method_2_code 5 = .ok (.getfield 15, 3) := by decide +kernel
theorem dP_append_8 : decode prog_3_method_2_code 8 = .ok (.arraylength, 1) := by decide +kernel
theorem dP_append_9 : decode prog_3_method_2_code 9 = .ok (.if_icmp .ge 26, 3) := by decide +kernel
theorem dP_append_12 : decode prog_3_method_2_code 12 = .ok (.aload_n 0, 1) := by decide +kernel
theorem dP_append_13 : decode prog_3_method_2_code 13 = .ok (.dup, 1) := by decide +kernel
theorem dP_append_14 : decode prog_3_method_2_code 14 = .ok (.getfield 9, 3) := by decide +kernel
theorem dP_append_17 : decode prog_3_method_2_code 17 = .ok (.iconst 1, 1) := by decide +kernel
theorem dP_append_18 : decode prog_3_method_2_code 18 = .ok (.iadd, 1) := by decide +kernel
theorem dP_append_19 : decode prog_3_method_2_code 19 = .ok (.putfield 9, 3) := by decide +kernel
theorem dP_append_22 : decode prog_3_method_2_code 22 = .ok (.aload_n 0, 1) := by decide +kernel
theorem dP_append_23 : decode prog_3_method_2_code 23 = .ok (.aload_n 0, 1) := by decide +kernel
theorem dP_append_24 : decode prog_3_method_2_code 24 = .ok (.getfield 9, 3) := by decide +kernel
theorem dP_append_27 : decode prog_3_method_2_code 27 = .ok (.iconst 1, 1) := by decide +kernel
theorem dP_append_28 : decode prog_3_method_2_code 28 = .ok (.isub, 1) := by decide +kernel
theorem dP_append_29 : decode prog_3_method_2_code 29 = .ok (.iload_n 1, 1) := by decide +kernel
theorem dP_append_30 : decode prog_3_method_2_code 30 = .ok (.iload_n 2, 1) := by decide +kernel
theorem dP_append_31 : decode prog_3_method_2_code 31 = .ok (.iconst (-1), 1) := by decide +kernel
theorem dP_append_32 : decode prog_3_method_2_code 32 = .ok (.invokevirtual 25, 3) := by decide +kernel
theorem dP_append_35 : decode prog_3_method_2_code 35 = .ok (.return_, 1) := by decide +kernel
def FP_append (h0 : Hp) (a0 : Nat) (p1 : Int32) (p2 : Int32) : Option Hp :=
  gI h0 a0 1 3 (fun x1 =>
  gR h0 a0 1 0 (fun a2 =>
  alen h0 a2 0 (fun x3 =>
  jn (fun (h4 : Hp) =>
  some h4)
  (fun (j5 : Hp → Option Hp) =>
  if x3 ≤ x1 then
    (j5 h0)
  else
    (gI h0 a0 1 3 (fun x6 =>
    pF h0 a0 1 3 (.int (x6 + 1)) (fun h7 =>
    gI h7 a0 1 3 (fun x8 =>
    gd (isO h7 a0 1 = true) ((FP_set h7 a0 (x8 - 1) p1 p2 (-1)).bind (fun r10 =>
    j5 r10))))))))))
set_option maxRecDepth 100000 in
set_option maxHeartbeats 4000000 in
theorem mP_append (l : Launch) (h0 : Hp) (z0 : Nat) (a0 : Nat) (p1 : Int32) (p2 : Int32) (r : Hp) (hr : FP_append h0 a0 p1 p2 = some r) : vM False l yP_append (Cond.code yP_append prog_3_method_2_code 3 none :: gW) 2 [.ref a0, .int p1, .int p2] h0 z0 r z0 none 0 0 := by
  refine vM.of (by decide) rfl (Nat.le_of_ble_eq_true rfl) ?_
  intro p e s m args below meth c D dA C hin2
  refine (?_ : vO p l e (vR 2 0 0) s m args below meth c D dA (vA h0 z0) 3 False (fun r : Hp => MQ below (vQc False h0 z0 D dA r z0 none) args s 0 0 (vAr False h0 z0)) 0 0 h0 z0 [(0, .ref a0), (1, .int p1), (2, .int p2)] 0 [] (FP_append h0 a0 p1 p2)) r hr
  obtain ⟨Q, hQ⟩ : ∃ Q : Hp → State → Prop, Q = (fun r : Hp => MQ below (vQc False h0 z0 D dA r z0 none) args s 0 0 (vAr False h0 z0)) := ⟨_, rfl⟩
  rw [← hQ]
  unfold FP_append
  refine v_aload_n C dP_append_0 rfl 0 rfl ?_
  refine v_getI C v_cl1 (by decide) in_1 rfl w_131 dP_append_1 (fun x1 => ?_)
  refine v_aload_n C dP_append_4 rfl 0 rfl ?_
  refine v_getR C v_cl1 (by decide) in_1 rfl w_125 dP_append_5 (fun a2 => ?_)
  refine v_alen C rfl dP_append_8 (fun x3 => ?_)
  refine v_jn (fun (j : Hp → Option Hp) => ∀ (h4 : Hp), vO p l e (vR 2 0 0) s m args below meth c D dA (vA h0 z0) 3 False Q 0 0 h4 z0 [] 35 [] (j h4)) ?_ (fun j5 Hj5 => ?_)
  · intro h4
    exact v_vret C dP_append_35 (by rw [hQ])
  · refine v_icmp_ge (tgt := 35) C dP_append_9 (by decide) ?_ ?_
    · refine v_lv (lv' := []) [] rfl ?_
      exact Hj5 h0
    · refine v_aload_n C dP_append_12 rfl 0 rfl ?_
      refine v_dup C dP_append_13 rfl ?_
      refine v_getI C v_cl1 (by decide) in_1 rfl w_131 dP_append_14 (fun x6 => ?_)
      refine v_iconst (v := 1) C dP_append_17 (by decide) ?_
      refine v_iadd C dP_append_18 ?_
      refine v_put C v_cl1 (by decide) in_1 ty_1 ty_1_ok nm_1 rfl w_131 rfl (ty := .int) (by decide +kernel) rfl rfl dP_append_19 (fun h7 => ?_)
      refine v_aload_n C dP_append_22 rfl 0 rfl ?_
      refine v_aload_n C dP_append_23 rfl 0 rfl ?_
      refine v_getI C v_cl1 (by decide) in_1 rfl w_131 dP_append_24 (fun x8 => ?_)
      refine v_iconst (v := 1) C dP_append_27 (by decide) ?_
      refine v_isub C dP_append_28 ?_
      refine v_iload_n C dP_append_29 rfl 1 rfl ?_
      refine v_iload_n C dP_append_30 rfl 2 rfl ?_
      refine v_iconst (v := (-1)) C dP_append_31 (by decide) ?_
      refine v_gd fun hO9 => ?_
      refine v_bind fun r10 hr10 => ?_
      refine v_callV0 (N := 4) (As := [.int (x8 - 1), .int p1, .int p2, .int (-1)]) (st := []) C (fun f => f.elim) (mP_set l h7 z0 a0 (x8 - 1) p1 p2 (-1) r10 hr10) rfl w_368 w_51 (by decide +kernel) ⟨Nat.le_of_ble_eq_true rfl, Nat.le_of_ble_eq_true rfl⟩ rfl rfl (Nat.le_of_ble_eq_true rfl) ⟨Nat.zero_le _, Nat.zero_le _⟩ w_365 w_367 w_13 v_cl1 rfl hO9 dP_append_32 ?_
      refine v_lv (lv' := []) [] rfl ?_
      exact Hj5 r10
theorem dT_gatherPieces_0 : decode prog_5_method_21_code 0 = .ok (.aload_n 0, 1) := by decide +kernel
theorem dT_gatherPieces_1 : decode prog_5_method_21_code 1 = .ok (.getfield 27, 3) := by decide +kernel
theorem dT_gatherPieces_4 : decode prog_5_method_21_code 4 = .ok (.iconst 0, 1) := by decide +kernel
theorem dT_gatherPieces_5 : decode prog_5_method_21_code 5 = .ok (.putfield 115, 3) := by decide +kernel
theorem dT_gatherPieces_8 : decode prog_5_method_21_code 8 = .ok (.iconst 0, 1) := by decide +kernel
theorem dT_gatherPieces_9 : decode prog_5_method_21_code 9 = .ok (.istore_n 1, 1) := by decide +kernel
theorem dT_gatherPieces_10 : decode prog_5_method_21_code 10 = .ok (.iload_n 1, 1) := by decide +kernel
theorem dT_gatherPieces_11 : decode prog_5_method_21_code 11 = .ok (.aload_n 0, 1) := by decide +kernel
theorem dT_gatherPieces_12 : decode prog_5_method_21_code 12 = .ok (.getfield 15, 3) := by decide +kernel
theorem dT_gatherPieces_15 : decode prog_5_method_21_code 15 = .ok (.if_icmp .ge 39, 3) := by decide +kernel
theorem dT_gatherPieces_18 : decode prog_5_method_21_code 18 = .ok (.aload_n 0, 1) := by decide +kernel
theorem dT_gatherPieces_19 : decode prog_5_method_21_code 19 = .ok (.iload_n 1, 1) := by decide +kernel
theorem dT_gatherPieces_20 : decode prog_5_method_21_code 20 = .ok (.invokevirtual 124, 3) := by decide +kernel
theorem dT_gatherPieces_23 : decode prog_5_method_21_code 23 = .ok (.iconst (-1), 1) := by decide +kernel
theorem dT_gatherPieces_24 : decode prog_5_method_21_code 24 = .ok (.if_icmp .eq 24, 3) := by decide +kernel
theorem dT_gatherPieces_27 : decode prog_5_method_21_code 27 = .ok (.aload_n 0, 1) := by decide +kernel
theorem dT_gatherPieces_28 : decode prog_5_method_21_code 28 = .ok (.getfield 27, 3) := by decide +kernel
theorem dT_gatherPieces_31 : decode prog_5_method_21_code 31 = .ok (.aload_n 0, 1) := by decide +kernel
theorem dT_gatherPieces_32 : decode prog_5_method_21_code 32 = .ok (.iload_n 1, 1) := by decide +kernel
theorem dT_gatherPieces_33 : decode prog_5_method_21_code 33 = .ok (.invokevirtual 99, 3) := by decide +kernel
theorem dT_gatherPieces_36 : decode prog_5_method_21_code 36 = .ok (.iconst 1, 1) := by decide +kernel
theorem dT_gatherPieces_37 : decode prog_5_method_21_code 37 = .ok (.iadd, 1) := by decide +kernel
theorem dT_gatherPieces_38 : decode prog_5_method_21_code 38 = .ok (.iconst 2, 1) := by decide +kernel
theorem dT_gatherPieces_39 : decode prog_5_method_21_code 39 = .ok (.idiv, 1) := by decide +kernel
theorem dT_gatherPieces_40 : decode prog_5_method_21_code 40 = .ok (.aload_n 0, 1) := by decide +kernel
theorem dT_gatherPieces_41 : decode prog_5_method_21_code 41 = .ok (.iload_n 1, 1) := by decide +kernel
theorem dT_gatherPieces_42 : decode prog_5_method_21_code 42 = .ok (.invokevirtual 124, 3) := by decide +kernel
theorem dT_gatherPieces_45 : decode prog_5_method_21_code 45 = .ok (.invokevirtual 127, 3) := by decide +kernel
theorem dT_gatherPieces_48 : decode prog_5_method_21_code 48 = .ok (.iinc 1 1, 3) := by decide +kernel
theorem dT_gatherPieces_51 : decode prog_5_method_21_code 51 = .ok (.goto (-41), 3) := by decide +kernel
theorem dT_gatherPieces_54 : decode prog_5_method_21_code 54 = .ok (.return_, 1) := by decide +kernel
def LT_gatherPieces_10 (a0 : Nat) (K4 : Hp → Option Hp) (rec7 : Hp → Int32 → Option Hp) (h5 : Hp) (x6 : Int32) : Option Hp :=
  gI h5 a0 3 9 (fun x8 =>
  if x8 ≤ x6 then
    (K4 h5)
  else
    (gd (isO h5 a0 3 = true) ((FT_signAt h5 a0 x6).bind (fun r10 =>
    jn (fun (h11 : Hp) =>
    rec7 h11 (x6 + 1))
    (fun (j12 : Hp → Option Hp) =>
    if r10 = (-1) then
      (j12 h5)
    else
      (gR h5 a0 3 1 (fun a13 =>
      gd (isO h5 a0 3 = true) ((FT_countAt h5 a0 x6).bind (fun r15 =>
      gd (¬ 2 = 0) (
      gd (isO h5 a0 3 = true) ((FT_signAt h5 a0 x6).bind (fun r17 =>
      gd (isO h5 a13 1 = true) ((FP_append h5 a13 ((r15 + 1) / 2) r17).bind (fun r19 =>
      j12 r19))))))))))))))
def FT_gatherPieces (h0 : Hp) (a0 : Nat) : Option Hp :=
  gR h0 a0 3 1 (fun a1 =>
  pF h0 a1 1 3 (.int 0) (fun h2 =>
  jn (fun (h3 : Hp) =>
  some h3)
  (fun (K4 : Hp → Option Hp) =>
  lpG (fun _ _ => none) fu (LT_gatherPieces_10 a0 K4) h2 0)))
set_option maxRecDepth 100000 in
set_option maxHeartbeats 4000000 in
theorem mT_gatherPieces (l : Launch) (h0 : Hp) (z0 : Nat) (a0 : Nat) (r : Hp) (hr : FT_gatherPieces h0 a0 = some r) : vM False l yT_gatherPieces (Cond.code yT_gatherPieces prog_5_method_21_code 2 none :: gW) 3 [.ref a0] h0 z0 r z0 none 0 0 := by
  refine vM.of (by decide) rfl (Nat.le_of_ble_eq_true rfl) ?_
  intro p e s m args below meth c D dA C hin2
  refine (?_ : vO p l e (vR 3 0 0) s m args below meth c D dA (vA h0 z0) 2 False (fun r : Hp => MQ below (vQc False h0 z0 D dA r z0 none) args s 0 0 (vAr False h0 z0)) 0 0 h0 z0 [(0, .ref a0)] 0 [] (FT_gatherPieces h0 a0)) r hr
  obtain ⟨Q, hQ⟩ : ∃ Q : Hp → State → Prop, Q = (fun r : Hp => MQ below (vQc False h0 z0 D dA r z0 none) args s 0 0 (vAr False h0 z0)) := ⟨_, rfl⟩
  rw [← hQ]
  unfold FT_gatherPieces
  refine v_aload_n C dT_gatherPieces_0 rfl 0 rfl ?_
  refine v_getR C v_cl3 (by decide) in_3 rfl w_161 dT_gatherPieces_1 (fun a1 => ?_)
  refine v_iconst (v := 0) C dT_gatherPieces_4 (by decide) ?_
  refine v_putN C v_cl1 (by decide) in_1 ty_1 ty_1_ok nm_1 rfl (nf_8 C.2.2.2.2.2.2.2.2.2) rfl (ty := .int) (by decide +kernel) rfl rfl dT_gatherPieces_5 (fun h2 => ?_)
  refine v_iconst (v := 0) C dT_gatherPieces_8 (by decide) ?_
  refine v_istore_n (lv' := [(0, .ref a0), (1, .int 0)]) C dT_gatherPieces_9 rfl (by decide) [1, 0] rfl ?_
  refine v_jn (fun (j : Hp → Option Hp) => ∀ (h3 : Hp), vO p l e (vR 3 0 0) s m args below meth c D dA (vA h0 z0) 2 False Q 0 0 h3 z0 [] 54 [] (j h3)) ?_ (fun K4 HK4 => ?_)
  · intro h3
    exact v_vret C dT_gatherPieces_54 (by rw [hQ])
  · refine lpG_ind (bot := (fun _ _ => none)) (B := LT_gatherPieces_10 a0 K4) (fun (r : Hp → Int32 → Option Hp) => ∀ (h5 : Hp), ∀ (x6 : Int32), vO p l e (vR 3 0 0) s m args below meth c D dA (vA h0 z0) 2 False Q 0 0 h5 z0 [(0, .ref a0), (1, .int x6)] 10 [] (r h5 x6)) ?_ ?_ fu h2 0
    · intro h5 x6
      exact v_none
    · intro rec7 Hrec7 h5 x6
      unfold LT_gatherPieces_10
      refine v_iload_n C dT_gatherPieces_10 rfl 1 rfl ?_
      refine v_aload_n C dT_gatherPieces_11 rfl 0 rfl ?_
      refine v_getI C v_cl3 (by decide) in_3 rfl w_170 dT_gatherPieces_12 (fun x8 => ?_)
      refine v_icmp_ge (tgt := 54) C dT_gatherPieces_15 (by decide) ?_ ?_
      · refine v_lv (lv' := []) [] rfl ?_
        exact HK4 h5
      · refine v_aload_n C dT_gatherPieces_18 rfl 0 rfl ?_
        refine v_iload_n C dT_gatherPieces_19 rfl 1 rfl ?_
        refine v_gd fun hO9 => ?_
        refine v_bind fun r10 hr10 => ?_
        refine v_callV0 (N := 1) (As := [.int x6]) (st := []) C (fun _ => trivial) (mT_signAt l h5 z0 a0 x6 r10 hr10) rfl w_360 w_52 (by decide +kernel) ⟨Nat.le_of_ble_eq_true rfl, Nat.le_of_ble_eq_true rfl⟩ rfl rfl (Nat.le_of_ble_eq_true rfl) ⟨Nat.zero_le _, Nat.zero_le _⟩ w_357 w_358 w_359 v_cl3 rfl hO9 dT_gatherPieces_20 ?_
        refine v_iconst (v := (-1)) C dT_gatherPieces_23 (by decide) ?_
        refine v_jn (fun (j : Hp → Option Hp) => ∀ (h11 : Hp), vO p l e (vR 3 0 0) s m args below meth c D dA (vA h0 z0) 2 False Q 0 0 h11 z0 [(0, .ref a0), (1, .int x6)] 48 [] (j h11)) ?_ (fun j12 Hj12 => ?_)
        · intro h11
          refine v_iinc (v := (x6 + 1)) (lv' := [(0, .ref a0), (1, .int (x6 + 1))]) C dT_gatherPieces_48 1 rfl rfl (by decide) [1, 0] rfl ?_
          refine v_goto (tgt := 10) C dT_gatherPieces_51 (by decide) ?_
          exact Hrec7 h11 (x6 + 1)
        · refine v_icmp_eq (tgt := 48) C dT_gatherPieces_24 (by decide) ?_ ?_
          · exact Hj12 h5
          · refine v_aload_n C dT_gatherPieces_27 rfl 0 rfl ?_
            refine v_getR C v_cl3 (by decide) in_3 rfl w_161 dT_gatherPieces_28 (fun a13 => ?_)
            refine v_aload_n C dT_gatherPieces_31 rfl 0 rfl ?_
            refine v_iload_n C dT_gatherPieces_32 rfl 1 rfl ?_
            refine v_gd fun hO14 => ?_
            refine v_bind fun r15 hr15 => ?_
            refine v_callV0 (N := 1) (As := [.int x6]) (st := [.ref a13]) C (fun _ => trivial) (mT_countAt l h5 z0 a0 x6 r15 hr15) rfl w_344 w_52 (by decide +kernel) ⟨Nat.le_of_ble_eq_true rfl, Nat.le_of_ble_eq_true rfl⟩ rfl rfl (Nat.le_of_ble_eq_true rfl) ⟨Nat.zero_le _, Nat.zero_le _⟩ w_341 w_342 w_343 v_cl3 rfl hO14 dT_gatherPieces_33 ?_
            refine v_iconst (v := 1) C dT_gatherPieces_36 (by decide) ?_
            refine v_iadd C dT_gatherPieces_37 ?_
            refine v_iconst (v := 2) C dT_gatherPieces_38 (by decide) ?_
            refine v_idiv C dT_gatherPieces_39 ?_
            refine v_aload_n C dT_gatherPieces_40 rfl 0 rfl ?_
            refine v_iload_n C dT_gatherPieces_41 rfl 1 rfl ?_
            refine v_gd fun hO16 => ?_
            refine v_bind fun r17 hr17 => ?_
            refine v_callV0 (N := 1) (As := [.int x6]) (st := [.int ((r15 + 1) / 2), .ref a13]) C (fun _ => trivial) (mT_signAt l h5 z0 a0 x6 r17 hr17) rfl w_360 w_52 (by decide +kernel) ⟨Nat.le_of_ble_eq_true rfl, Nat.le_of_ble_eq_true rfl⟩ rfl rfl (Nat.le_of_ble_eq_true rfl) ⟨Nat.zero_le _, Nat.zero_le _⟩ w_357 w_358 w_359 v_cl3 rfl hO16 dT_gatherPieces_42 ?_
            refine v_gd fun hO18 => ?_
            refine v_bind fun r19 hr19 => ?_
            refine v_callV0 (N := 2) (As := [.int ((r15 + 1) / 2), .int r17]) (st := []) C (fun f => f.elim) (mP_append l h5 z0 a13 ((r15 + 1) / 2) r17 r19 hr19) rfl w_364 w_51 (by decide +kernel) ⟨Nat.le_of_ble_eq_true rfl, Nat.le_of_ble_eq_true rfl⟩ rfl rfl (Nat.le_of_ble_eq_true rfl) ⟨Nat.zero_le _, Nat.zero_le _⟩ w_361 w_362 w_363 v_cl1 rfl hO18 dT_gatherPieces_45 ?_
            exact Hj12 r19
