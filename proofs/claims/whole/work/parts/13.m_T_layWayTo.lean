theorem dT_layWayTo_0 : decode prog_5_method_14_code 0 = .ok (.iload_n 1, 1) := by decide +kernel
theorem dT_layWayTo_1 : decode prog_5_method_14_code 1 = .ok (.istore_n 3, 1) := by decide +kernel
theorem dT_layWayTo_2 : decode prog_5_method_14_code 2 = .ok (.iconst 0, 1) := by decide +kernel
theorem dT_layWayTo_3 : decode prog_5_method_14_code 3 = .ok (.istore 4, 2) := by decide +kernel
theorem dT_layWayTo_5 : decode prog_5_method_14_code 5 = .ok (.aload_n 0, 1) := by decide +kernel
theorem dT_layWayTo_6 : decode prog_5_method_14_code 6 = .ok (.iload_n 3, 1) := by decide +kernel
theorem dT_layWayTo_7 : decode prog_5_method_14_code 7 = .ok (.invokevirtual 71, 3) := by decide +kernel
theorem dT_layWayTo_10 : decode prog_5_method_14_code 10 = .ok (.iconst (-1), 1) := by decide +kernel
theorem dT_layWayTo_11 : decode prog_5_method_14_code 11 = .ok (.if_icmp .eq 48, 3) := by decide +kernel
theorem dT_layWayTo_14 : decode prog_5_method_14_code 14 = .ok (.iload 4, 2) := by decide +kernel
theorem dT_layWayTo_16 : decode prog_5_method_14_code 16 = .ok (.aload_n 0, 1) := by decide +kernel
theorem dT_layWayTo_17 : decode prog_5_method_14_code 17 = .ok (.getfield 15, 3) := by decide +kernel
theorem dT_layWayTo_20 : decode prog_5_method_14_code 20 = .ok (.if_icmp .ge 39, 3) := by decide +kernel
theorem dT_layWayTo_23 : decode prog_5_method_14_code 23 = .ok (.aload_n 0, 1) := by decide +kernel
theorem dT_layWayTo_24 : decode prog_5_method_14_code 24 = .ok (.iload_n 3, 1) := by decide +kernel
theorem dT_layWayTo_25 : decode prog_5_method_14_code 25 = .ok (.invokevirtual 71, 3) := by decide +kernel
theorem dT_layWayTo_28 : decode prog_5_method_14_code 28 = .ok (.istore 5, 2) := by decide +kernel
theorem dT_layWayTo_30 : decode prog_5_method_14_code 30 = .ok (.aload_n 2, 1) := by decide +kernel
theorem dT_layWayTo_31 : decode prog_5_method_14_code 31 = .ok (.aload_n 0, 1) := by decide +kernel
theorem dT_layWayTo_32 : decode prog_5_method_14_code 32 = .ok (.iload 5, 2) := by decide +kernel
theorem dT_layWayTo_34 : decode prog_5_method_14_code 34 = .ok (.iconst 0, 1) := by decide +kernel
theorem dT_layWayTo_35 : decode prog_5_method_14_code 35 = .ok (.invokevirtual 74, 3) := by decide +kernel
theorem dT_layWayTo_38 : decode prog_5_method_14_code 38 = .ok (.iload_n 3, 1) := by decide +kernel
theorem dT_layWayTo_39 : decode prog_5_method_14_code 39 = .ok (.if_icmp .ne 7, 3) := by decide +kernel
theorem dT_layWayTo_42 : decode prog_5_method_14_code 42 = .ok (.iconst 0, 1) := by decide +kernel
theorem dT_layWayTo_43 : decode prog_5_method_14_code 43 = .ok (.goto 4, 3) := by decide +kernel
theorem dT_layWayTo_46 : decode prog_5_method_14_code 46 = .ok (.iconst 1, 1) := by decide +kernel
theorem dT_layWayTo_47 : decode prog_5_method_14_code 47 = .ok (.invokevirtual 78, 3) := by decide +kernel
theorem dT_layWayTo_50 : decode prog_5_method_14_code 50 = .ok (.iload 5, 2) := by decide +kernel
theorem dT_layWayTo_52 : decode prog_5_method_14_code 52 = .ok (.istore_n 3, 1) := by decide +kernel
theorem dT_layWayTo_53 : decode prog_5_method_14_code 53 = .ok (.iinc 4 1, 3) := by decide +kernel
theorem dT_layWayTo_56 : decode prog_5_method_14_code 56 = .ok (.goto (-51), 3) := by decide +kernel
theorem dT_layWayTo_59 : decode prog_5_method_14_code 59 = .ok (.aload_n 2, 1) := by decide +kernel
theorem dT_layWayTo_60 : decode prog_5_method_14_code 60 = .ok (.invokevirtual 84, 3) := by decide +kernel
theorem dT_layWayTo_63 : decode prog_5_method_14_code 63 = .ok (.return_, 1) := by decide +kernel
def LT_layWayTo_5 (a0 : Nat) (u2 : Nat) (K2 : Hp → Option Hp) (rec8 : Hp → Int32 → Int32 → Option Hp) (h5 : Hp) (x6 : Int32) (x7 : Int32) : Option Hp :=
  gd (isO h5 a0 3 = true) ((FT_parentOf h5 a0 x6).bind (fun r10 =>
  if r10 = (-1) then
    (K2 h5)
  else
    (gI h5 a0 3 9 (fun x11 =>
    if x11 ≤ x7 then
      (K2 h5)
    else
      (gd (isO h5 a0 3 = true) ((FT_parentOf h5 a0 x6).bind (fun r13 =>
      gd (isO h5 a0 3 = true) ((FT_childOf h5 a0 r13 0).bind (fun r15 =>
      jn (fun (y16 : Int32) (b17 : Nat) =>
      gd (isO h5 b17 0 = true) ((FC_append h5 b17 y16).bind (fun r20 =>
      rec8 r20 r13 (x7 + 1))))
      (fun (j18 : Int32 → Nat → Option Hp) =>
      if r15 = x6 then
        (j18 0 u2)
      else
        (j18 1 u2)))))))))))
def FT_layWayTo (h0 : Hp) (a0 : Nat) (p1 : Int32) (u2 : Nat) : Option Hp :=
  jn (fun (h1 : Hp) =>
  gd (isO h1 u2 0 = true) ((FC_reverse h1 u2).bind (fun r4 =>
  some r4)))
  (fun (K2 : Hp → Option Hp) =>
  lpG (fun _ _ _ => none) fu (LT_layWayTo_5 a0 u2 K2) h0 p1 0)
set_option maxRecDepth 100000 in
set_option maxHeartbeats 4000000 in
theorem mT_layWayTo (l : Launch) (h0 : Hp) (z0 : Nat) (a0 : Nat) (p1 : Int32) (u2 : Nat) (r : Hp) (hr : FT_layWayTo h0 a0 p1 u2 = some r) : vM False l yT_layWayTo (Cond.code yT_layWayTo prog_5_method_14_code 6 none :: gW) 2 [.ref a0, .int p1, .ref u2] h0 z0 r z0 none 0 0 := by
  refine vM.of (by decide) rfl (Nat.le_of_ble_eq_true rfl) ?_
  intro p e s m args below meth c D dA C hin2
  refine (?_ : vO p l e (vR 2 0 0) s m args below meth c D dA (vA h0 z0) 6 False (fun r : Hp => MQ below (vQc False h0 z0 D dA r z0 none) args s 0 0 (vAr False h0 z0)) 0 0 h0 z0 [(0, .ref a0), (1, .int p1), (2, .ref u2)] 0 [] (FT_layWayTo h0 a0 p1 u2)) r hr
  obtain ⟨Q, hQ⟩ : ∃ Q : Hp → State → Prop, Q = (fun r : Hp => MQ below (vQc False h0 z0 D dA r z0 none) args s 0 0 (vAr False h0 z0)) := ⟨_, rfl⟩
  rw [← hQ]
  unfold FT_layWayTo
  refine v_iload_n C dT_layWayTo_0 rfl 1 rfl ?_
  refine v_istore_n (lv' := [(0, .ref a0), (2, .ref u2), (3, .int p1)]) C dT_layWayTo_1 rfl (by decide) [1, 3, 0] rfl ?_
  refine v_iconst (v := 0) C dT_layWayTo_2 (by decide) ?_
  refine v_istore (lv' := [(0, .ref a0), (2, .ref u2), (3, .int p1), (4, .int 0)]) C dT_layWayTo_3 (by decide) [1, 2, 3, 0] rfl ?_
  refine v_jn (fun (j : Hp → Option Hp) => ∀ (h1 : Hp), vO p l e (vR 2 0 0) s m args below meth c D dA (vA h0 z0) 6 False Q 0 0 h1 z0 [(2, .ref u2)] 59 [] (j h1)) ?_ (fun K2 HK2 => ?_)
  · intro h1
    refine v_aload_n C dT_layWayTo_59 rfl 0 rfl ?_
    refine v_gd fun hO3 => ?_
    refine v_bind fun r4 hr4 => ?_
    refine v_callV0 (N := 0) (As := []) (st := []) C (fun f => f.elim) (mC_reverse l h1 z0 u2 r4 hr4) rfl w_306 w_50 (by decide +kernel) ⟨Nat.le_of_ble_eq_true rfl, Nat.le_of_ble_eq_true rfl⟩ rfl rfl (Nat.le_of_ble_eq_true rfl) ⟨Nat.zero_le _, Nat.zero_le _⟩ w_303 w_304 w_305 v_cl0 rfl hO3 dT_layWayTo_60 ?_
    exact v_vret C dT_layWayTo_63 (by rw [hQ])
  · refine lpG_ind (bot := (fun _ _ _ => none)) (B := LT_layWayTo_5 a0 u2 K2) (fun (r : Hp → Int32 → Int32 → Option Hp) => ∀ (h5 : Hp), ∀ (x6 : Int32), ∀ (x7 : Int32), vO p l e (vR 2 0 0) s m args below meth c D dA (vA h0 z0) 6 False Q 0 0 h5 z0 [(0, .ref a0), (2, .ref u2), (3, .int x6), (4, .int x7)] 5 [] (r h5 x6 x7)) ?_ ?_ fu h0 p1 0
    · intro h5 x6 x7
      exact v_none
    · intro rec8 Hrec8 h5 x6 x7
      unfold LT_layWayTo_5
      refine v_aload_n C dT_layWayTo_5 rfl 0 rfl ?_
      refine v_iload_n C dT_layWayTo_6 rfl 2 rfl ?_
      refine v_gd fun hO9 => ?_
      refine v_bind fun r10 hr10 => ?_
      refine v_callV0 (N := 1) (As := [.int x6]) (st := []) C (fun _ => trivial) (mT_parentOf l h5 z0 a0 x6 r10 hr10) rfl w_294 w_52 (by decide +kernel) ⟨Nat.le_of_ble_eq_true rfl, Nat.le_of_ble_eq_true rfl⟩ rfl rfl (Nat.le_of_ble_eq_true rfl) ⟨Nat.zero_le _, Nat.zero_le _⟩ w_291 w_292 w_293 v_cl3 rfl hO9 dT_layWayTo_7 ?_
      refine v_iconst (v := (-1)) C dT_layWayTo_10 (by decide) ?_
      refine v_icmp_eq (tgt := 59) C dT_layWayTo_11 (by decide) ?_ ?_
      · refine v_lv (lv' := [(2, .ref u2)]) [1] rfl ?_
        exact HK2 h5
      · refine v_iload C dT_layWayTo_14 3 rfl ?_
        refine v_aload_n C dT_layWayTo_16 rfl 0 rfl ?_
        refine v_getI C v_cl3 (by decide) in_3 rfl w_170 dT_layWayTo_17 (fun x11 => ?_)
        refine v_icmp_ge (tgt := 59) C dT_layWayTo_20 (by decide) ?_ ?_
        · refine v_lv (lv' := [(2, .ref u2)]) [1] rfl ?_
          exact HK2 h5
        · refine v_aload_n C dT_layWayTo_23 rfl 0 rfl ?_
          refine v_iload_n C dT_layWayTo_24 rfl 2 rfl ?_
          refine v_gd fun hO12 => ?_
          refine v_bind fun r13 hr13 => ?_
          refine v_callV0 (N := 1) (As := [.int x6]) (st := []) C (fun _ => trivial) (mT_parentOf l h5 z0 a0 x6 r13 hr13) rfl w_294 w_52 (by decide +kernel) ⟨Nat.le_of_ble_eq_true rfl, Nat.le_of_ble_eq_true rfl⟩ rfl rfl (Nat.le_of_ble_eq_true rfl) ⟨Nat.zero_le _, Nat.zero_le _⟩ w_291 w_292 w_293 v_cl3 rfl hO12 dT_layWayTo_25 ?_
          refine v_istore (lv' := [(0, .ref a0), (2, .ref u2), (3, .int x6), (4, .int x7), (5, .int r13)]) C dT_layWayTo_28 (by decide) [1, 2, 3, 4, 0] rfl ?_
          refine v_aload_n C dT_layWayTo_30 rfl 1 rfl ?_
          refine v_aload_n C dT_layWayTo_31 rfl 0 rfl ?_
          refine v_iload C dT_layWayTo_32 4 rfl ?_
          refine v_iconst (v := 0) C dT_layWayTo_34 (by decide) ?_
          refine v_gd fun hO14 => ?_
          refine v_bind fun r15 hr15 => ?_
          refine v_callV0 (N := 2) (As := [.int r13, .int 0]) (st := [.ref u2]) C (fun _ => trivial) (mT_childOf l h5 z0 a0 r13 0 r15 hr15) rfl w_298 w_52 (by decide +kernel) ⟨Nat.le_of_ble_eq_true rfl, Nat.le_of_ble_eq_true rfl⟩ rfl rfl (Nat.le_of_ble_eq_true rfl) ⟨Nat.zero_le _, Nat.zero_le _⟩ w_295 w_296 w_297 v_cl3 rfl hO14 dT_layWayTo_35 ?_
          refine v_iload_n C dT_layWayTo_38 rfl 2 rfl ?_
          refine v_jn (fun (j : Int32 → Nat → Option Hp) => ∀ (y16 : Int32), ∀ (b17 : Nat), vO p l e (vR 2 0 0) s m args below meth c D dA (vA h0 z0) 6 False Q 0 0 h5 z0 [(0, .ref a0), (2, .ref u2), (4, .int x7), (5, .int r13)] 47 [.int y16, .ref b17] (j y16 b17)) ?_ (fun j18 Hj18 => ?_)
          · intro y16 b17
            refine v_gd fun hO19 => ?_
            refine v_bind fun r20 hr20 => ?_
            refine v_callV0 (N := 1) (As := [.int y16]) (st := []) C (fun f => f.elim) (mC_append l h5 z0 b17 y16 r20 hr20) rfl w_302 w_50 (by decide +kernel) ⟨Nat.le_of_ble_eq_true rfl, Nat.le_of_ble_eq_true rfl⟩ rfl rfl (Nat.le_of_ble_eq_true rfl) ⟨Nat.zero_le _, Nat.zero_le _⟩ w_299 w_300 w_301 v_cl0 rfl hO19 dT_layWayTo_47 ?_
            refine v_iload C dT_layWayTo_50 3 rfl ?_
            refine v_istore_n (lv' := [(0, .ref a0), (2, .ref u2), (3, .int r13), (4, .int x7)]) C dT_layWayTo_52 rfl (by decide) [1, 2, 0, 3] rfl ?_
            refine v_iinc (v := (x7 + 1)) (lv' := [(0, .ref a0), (2, .ref u2), (3, .int r13), (4, .int (x7 + 1))]) C dT_layWayTo_53 3 rfl rfl (by decide) [1, 2, 3, 0] rfl ?_
            refine v_goto (tgt := 5) C dT_layWayTo_56 (by decide) ?_
            exact Hrec8 r20 r13 (x7 + 1)
          · refine v_icmp_ne (tgt := 46) C dT_layWayTo_39 (by decide) ?_ ?_
            · refine v_iconst (v := 1) C dT_layWayTo_46 (by decide) ?_
              refine v_lv (lv' := [(0, .ref a0), (2, .ref u2), (4, .int x7), (5, .int r13)]) [0, 1, 3, 4] rfl ?_
              exact Hj18 1 u2
            · refine v_iconst (v := 0) C dT_layWayTo_42 (by decide) ?_
              refine v_goto (tgt := 47) C dT_layWayTo_43 (by decide) ?_
              refine v_lv (lv' := [(0, .ref a0), (2, .ref u2), (4, .int x7), (5, .int r13)]) [0, 1, 3, 4] rfl ?_
              exact Hj18 0 u2
theorem dC_appendNumber_0 : decode prog_2_method_4_code 0 = .ok (.iload_n 2, 1) := by decide +kernel
theorem dC_appendNumber_1 : decode prog_2_method_4_code 1 = .ok (.iconst 1, 1) := by decide +kernel
theorem dC_appendNumber_2 : decode prog_2_method_4_code 2 = .ok (.isub, 1) := by decide +kernel
theorem dC_appendNumber_3 : decode prog_2_method_4_code 3 = .ok (.istore_n 3, 1) := by decide +kernel
theorem dC_appendNumber_4 : decode prog_2_method_4_code 4 = .ok (.iload_n 3, 1) := by decide +kernel
theorem dC_appendNumber_5 : decode prog_2_method_4_code 5 = .ok (.ifCond .lt 18, 3) := by decide +kernel
theorem dC_appendNumber_8 : decode prog_2_method_4_code 8 = .ok (.aload_n 0, 1) := by decide +kernel
theorem dC_appendNumber_9 : decode prog_2_method_4_code 9 = .ok (.iload_n 1, 1) := by decide +kernel
theorem dC_appendNumber_10 : decode prog_2_method_4_code 10 = .ok (.iload_n 3, 1) := by decide +kernel
theorem dC_appendNumber_11 : decode prog_2_method_4_code 11 = .ok (.ishr, 1) := by decide +kernel
theorem dC_appendNumber_12 : decode prog_2_method_4_code 12 = .ok (.iconst 1, 1) := by decide +kernel
theorem dC_appendNumber_13 : decode prog_2_method_4_code 13 = .ok (.iand, 1) := by decide +kernel
theorem dC_appendNumber_14 : decode prog_2_method_4_code 14 = .ok (.invokevirtual 19, 3) := by decide +kernel
theorem dC_appendNumber_17 : decode prog_2_method_4_code 17 = .ok (.iinc 3 (-1), 3) := by decide +kernel
theorem dC_appendNumber_20 : decode prog_2_method_4_code 20 = .ok (.goto (-16), 3) := by decide +kernel
theorem dC_appendNumber_23 : decode prog_2_method_4_code 23 = .ok (.return_, 1) := by decide +kernel
def LC_appendNumber_4 (a0 : Nat) (p1 : Int32) (K2 : Hp → Option Hp) (rec5 : Hp → Int32 → Option Hp) (h3 : Hp) (x4 : Int32) : Option Hp :=
  if x4 < 0 then
    (K2 h3)
  else
    (gd (isO h3 a0 0 = true) ((FC_append h3 a0 ((p1 >>> (x4 &&& 31)) &&& 1)).bind (fun r7 =>
    rec5 r7 (x4 + (-1)))))
def FC_appendNumber (h0 : Hp) (a0 : Nat) (p1 : Int32) (p2 : Int32) : Option Hp :=
  jn (fun (h1 : Hp) =>
  some h1)
  (fun (K2 : Hp → Option Hp) =>
  lpG (fun _ _ => none) fu (LC_appendNumber_4 a0 p1 K2) h0 (p2 - 1))
set_option maxRecDepth 100000 in
set_option maxHeartbeats 4000000 in
theorem mC_appendNumber (l : Launch) (h0 : Hp) (z0 : Nat) (a0 : Nat) (p1 : Int32) (p2 : Int32) (r : Hp) (hr : FC_appendNumber h0 a0 p1 p2 = some r) : vM False l yC_appendNumber (Cond.code yC_appendNumber prog_2_method_4_code 4 none :: gW) 1 [.ref a0, .int p1, .int p2] h0 z0 r z0 none 0 0 := by
  refine vM.of (by decide) rfl (Nat.le_of_ble_eq_true rfl) ?_
  intro p e s m args below meth c D dA C hin2
  refine (?_ : vO p l e (vR 1 0 0) s m args below meth c D dA (vA h0 z0) 4 False (fun r : Hp => MQ below (vQc False h0 z0 D dA r z0 none) args s 0 0 (vAr False h0 z0)) 0 0 h0 z0 [(0, .ref a0), (1, .int p1), (2, .int p2)] 0 [] (FC_appendNumber h0 a0 p1 p2)) r hr
  obtain ⟨Q, hQ⟩ : ∃ Q : Hp → State → Prop, Q = (fun r : Hp => MQ below (vQc False h0 z0 D dA r z0 none) args s 0 0 (vAr False h0 z0)) := ⟨_, rfl⟩
  rw [← hQ]
  unfold FC_appendNumber
  refine v_iload_n C dC_appendNumber_0 rfl 2 rfl ?_
  refine v_iconst (v := 1) C dC_appendNumber_1 (by decide) ?_
  refine v_isub C dC_appendNumber_2 ?_
  refine v_istore_n (lv' := [(0, .ref a0), (1, .int p1), (3, .int (p2 - 1))]) C dC_appendNumber_3 rfl (by decide) [1, 2, 0] rfl ?_
  refine v_jn (fun (j : Hp → Option Hp) => ∀ (h1 : Hp), vO p l e (vR 1 0 0) s m args below meth c D dA (vA h0 z0) 4 False Q 0 0 h1 z0 [] 23 [] (j h1)) ?_ (fun K2 HK2 => ?_)
  · intro h1
    exact v_vret C dC_appendNumber_23 (by rw [hQ])
  · refine lpG_ind (bot := (fun _ _ => none)) (B := LC_appendNumber_4 a0 p1 K2) (fun (r : Hp → Int32 → Option Hp) => ∀ (h3 : Hp), ∀ (x4 : Int32), vO p l e (vR 1 0 0) s m args below meth c D dA (vA h0 z0) 4 False Q 0 0 h3 z0 [(0, .ref a0), (1, .int p1), (3, .int x4)] 4 [] (r h3 x4)) ?_ ?_ fu h0 (p2 - 1)
    · intro h3 x4
      exact v_none
    · intro rec5 Hrec5 h3 x4
      unfold LC_appendNumber_4
      refine v_iload_n C dC_appendNumber_4 rfl 2 rfl ?_
      refine v_if_lt (tgt := 23) C dC_appendNumber_5 (by decide) ?_ ?_
      · refine v_lv (lv' := []) [] rfl ?_
        exact HK2 h3
      · refine v_aload_n C dC_appendNumber_8 rfl 0 rfl ?_
        refine v_iload_n C dC_appendNumber_9 rfl 1 rfl ?_
        refine v_iload_n C dC_appendNumber_10 rfl 2 rfl ?_
        refine v_ishr C dC_appendNumber_11 ?_
        refine v_iconst (v := 1) C dC_appendNumber_12 (by decide) ?_
        refine v_iand C dC_appendNumber_13 ?_
        refine v_gd fun hO6 => ?_
        refine v_bind fun r7 hr7 => ?_
        refine v_callV0 (N := 1) (As := [.int ((p1 >>> (x4 &&& 31)) &&& 1)]) (st := []) C (fun f => f.elim) (mC_append l h3 z0 a0 ((p1 >>> (x4 &&& 31)) &&& 1) r7 hr7) rfl w_302 w_50 (by decide +kernel) ⟨Nat.le_of_ble_eq_true rfl, Nat.le_of_ble_eq_true rfl⟩ rfl rfl (Nat.le_of_ble_eq_true rfl) ⟨Nat.zero_le _, Nat.zero_le _⟩ w_311 w_300 w_301 v_cl0 rfl hO6 dC_appendNumber_14 ?_
        refine v_iinc (v := (x4 + (-1))) (lv' := [(0, .ref a0), (1, .int p1), (3, .int (x4 + (-1)))]) C dC_appendNumber_17 2 rfl rfl (by decide) [1, 2, 0] rfl ?_
        refine v_goto (tgt := 4) C dC_appendNumber_20 (by decide) ?_
        exact Hrec5 r7 (x4 + (-1))
theorem dA_layCode_0 : decode prog_1_method_30_code 0 = .ok (.aload_n 0, 1) := by decide +kernel
theorem dA_layCode_1 : decode prog_1_method_30_code 1 = .ok (.getfield 73, 3) := by decide +kernel
theorem dA_layCode_4 : decode prog_1_method_30_code 4 = .ok (.iconst 0, 1) := by decide +kernel
theorem dA_layCode_5 : decode prog_1_method_30_code 5 = .ok (.putfield 104, 3) := by decide +kernel
theorem dA_layCode_8 : decode prog_1_method_30_code 8 = .ok (.aload_n 1, 1) := by decide +kernel
theorem dA_layCode_9 : decode prog_1_method_30_code 9 = .ok (.iload_n 2, 1) := by decide +kernel
theorem dA_layCode_10 : decode prog_1_method_30_code 10 = .ok (.invokevirtual 130, 3) := by decide +kernel
theorem dA_layCode_13 : decode prog_1_method_30_code 13 = .ok (.ifCond .eq 19, 3) := by decide +kernel
theorem dA_layCode_16 : decode prog_1_method_30_code 16 = .ok (.aload_n 1, 1) := by decide +kernel
theorem dA_layCode_17 : decode prog_1_method_30_code 17 = .ok (.aload_n 1, 1) := by decide +kernel
theorem dA_layCode_18 : decode prog_1_method_30_code 18 = .ok (.iload_n 2, 1) := by decide +kernel
theorem dA_layCode_19 : decode prog_1_method_30_code 19 = .ok (.invokevirtual 190, 3) := by decide +kernel
theorem dA_layCode_22 : decode prog_1_method_30_code 22 = .ok (.aload_n 0, 1) := by decide +kernel
theorem dA_layCode_23 : decode prog_1_method_30_code 23 = .ok (.getfield 73, 3) := by decide +kernel
theorem dA_layCode_26 : decode prog_1_method_30_code 26 = .ok (.invokevirtual 193, 3) := by decide +kernel
theorem dA_layCode_29 : decode prog_1_method_30_code 29 = .ok (.goto 27, 3) := by decide +kernel
theorem dA_layCode_32 : decode prog_1_method_30_code 32 = .ok (.aload_n 1, 1) := by decide +kernel
theorem dA_layCode_33 : decode prog_1_method_30_code 33 = .ok (.aload_n 1, 1) := by decide +kernel
theorem dA_layCode_34 : decode prog_1_method_30_code 34 = .ok (.getfield 137, 3) := by decide +kernel
theorem dA_layCode_37 : decode prog_1_method_30_code 37 = .ok (.aload_n 0, 1) := by decide +kernel
theorem dA_layCode_38 : decode prog_1_method_30_code 38 = .ok (.getfield 73, 3) := by decide +kernel
theorem dA_layCode_41 : decode prog_1_method_30_code 41 = .ok (.invokevirtual 193, 3) := by decide +kernel
theorem dA_layCode_44 : decode prog_1_method_30_code 44 = .ok (.aload_n 0, 1) := by decide +kernel
theorem dA_layCode_45 : decode prog_1_method_30_code 45 = .ok (.getfield 73, 3) := by decide +kernel
theorem dA_layCode_48 : decode prog_1_method_30_code 48 = .ok (.iload_n 2, 1) := by decide +kernel
theorem dA_layCode_49 : decode prog_1_method_30_code 49 = .ok (.aload_n 0, 1) := by decide +kernel
theorem dA_layCode_50 : decode prog_1_method_30_code 50 = .ok (.getfield 62, 3) := by decide +kernel
theorem dA_layCode_53 : decode prog_1_method_30_code 53 = .ok (.invokevirtual 197, 3) := by decide +kernel
theorem dA_layCode_56 : decode prog_1_method_30_code 56 = .ok (.return_, 1) := by decide +kernel
def FA_layCode (h0 : Hp) (a0 : Nat) (u1 : Nat) (p2 : Int32) : Option Hp :=
  gR h0 a0 4 10 (fun a1 =>
  pF h0 a1 0 1 (.int 0) (fun h2 =>
  gd (isO h2 u1 3 = true) ((FT_hasLeafOf h2 u1 p2).bind (fun r4 =>
  jn (fun (h5 : Hp) =>
  some h5)
  (fun (j6 : Hp → Option Hp) =>
  if r4 = 0 then
    (gI h2 u1 3 10 (fun x7 =>
    gR h2 a0 4 10 (fun a8 =>
    gd (isO h2 u1 3 = true) ((FT_layWayTo h2 u1 x7 a8).bind (fun r10 =>
    gR r10 a0 4 10 (fun a11 =>
    gI r10 a0 4 1 (fun x12 =>
    gd (isO r10 a11 0 = true) ((FC_appendNumber r10 a11 p2 x12).bind (fun r14 =>
    j6 r14)))))))))
  else
    (gd (isO h2 u1 3 = true) ((FT_leafOf h2 u1 p2).bind (fun r16 =>
    gR h2 a0 4 10 (fun a17 =>
    gd (isO h2 u1 3 = true) ((FT_layWayTo h2 u1 r16 a17).bind (fun r19 =>
    j6 r19)))))))))))
set_option maxRecDepth 100000 in
set_option maxHeartbeats 4000000 in
theorem mA_layCode (l : Launch) (h0 : Hp) (z0 : Nat) (a0 : Nat) (u1 : Nat) (p2 : Int32) (r : Hp) (hr : FA_layCode h0 a0 u1 p2 = some r) : vM False l yA_layCode (Cond.code yA_layCode prog_1_method_30_code 3 none :: gW) 3 [.ref a0, .ref u1, .int p2] h0 z0 r z0 none 0 0 := by
  refine vM.of (by decide) rfl (Nat.le_of_ble_eq_true rfl) ?_
  intro p e s m args below meth c D dA C hin2
  refine (?_ : vO p l e (vR 3 0 0) s m args below meth c D dA (vA h0 z0) 3 False (fun r : Hp => MQ below (vQc False h0 z0 D dA r z0 none) args s 0 0 (vAr False h0 z0)) 0 0 h0 z0 [(0, .ref a0), (1, .ref u1), (2, .int p2)] 0 [] (FA_layCode h0 a0 u1 p2)) r hr
  obtain ⟨Q, hQ⟩ : ∃ Q : Hp → State → Prop, Q = (fun r : Hp => MQ below (vQc False h0 z0 D dA r z0 none) args s 0 0 (vAr False h0 z0)) := ⟨_, rfl⟩
  rw [← hQ]
  unfold FA_layCode
  refine v_aload_n C dA_layCode_0 rfl 0 rfl ?_
  refine v_getR C v_cl4 (by decide) in_4 rfl w_211 dA_layCode_1 (fun a1 => ?_)
  refine v_iconst (v := 0) C dA_layCode_4 (by decide) ?_
  refine v_putN C v_cl0 (by decide) in_0 ty_0 ty_0_ok nm_0 rfl (nf_1 C.2.2.2.2.2.2.2.2.2) rfl (ty := .int) (by decide +kernel) rfl rfl dA_layCode_5 (fun h2 => ?_)
  refine v_aload_n C dA_layCode_8 rfl 1 rfl ?_
  refine v_iload_n C dA_layCode_9 rfl 2 rfl ?_
  refine v_gd fun hO3 => ?_
  refine v_bind fun r4 hr4 => ?_
  refine v_callV0 (N := 1) (As := [.int p2]) (st := []) C (fun _ => trivial) (mT_hasLeafOf l h2 z0 u1 p2 r4 hr4) rfl w_281 w_52 (by decide +kernel) ⟨Nat.le_of_ble_eq_true rfl, Nat.le_of_ble_eq_true rfl⟩ rfl rfl (Nat.le_of_ble_eq_true rfl) ⟨Nat.zero_le _, Nat.zero_le _⟩ w_278 w_279 w_280 v_cl3 rfl hO3 dA_layCode_10 ?_
  refine v_jn (fun (j : Hp → Option Hp) => ∀ (h5 : Hp), vO p l e (vR 3 0 0) s m args below meth c D dA (vA h0 z0) 3 False Q 0 0 h5 z0 [] 56 [] (j h5)) ?_ (fun j6 Hj6 => ?_)
  · intro h5
    exact v_vret C dA_layCode_56 (by rw [hQ])
  · refine v_if_eq (tgt := 32) C dA_layCode_13 (by decide) ?_ ?_
    · refine v_aload_n C dA_layCode_32 rfl 1 rfl ?_
      refine v_aload_n C dA_layCode_33 rfl 1 rfl ?_
      refine v_getIN C v_cl3 (by decide) in_3 rfl (nf_2 C.2.2.2.2.2.2.2.2.2) dA_layCode_34 (fun x7 => ?_)
      refine v_aload_n C dA_layCode_37 rfl 0 rfl ?_
      refine v_getR C v_cl4 (by decide) in_4 rfl w_211 dA_layCode_38 (fun a8 => ?_)
      refine v_gd fun hO9 => ?_
      refine v_bind fun r10 hr10 => ?_
      refine v_callV0 (N := 2) (As := [.int x7, .ref a8]) (st := []) C (fun f => f.elim) (mT_layWayTo l h2 z0 u1 x7 a8 r10 hr10) rfl w_290 w_52 (by decide +kernel) ⟨Nat.le_of_ble_eq_true rfl, Nat.le_of_ble_eq_true rfl⟩ rfl rfl (Nat.le_of_ble_eq_true rfl) ⟨Nat.zero_le _, Nat.zero_le _⟩ w_287 w_288 w_289 v_cl3 rfl hO9 dA_layCode_41 ?_
      refine v_aload_n C dA_layCode_44 rfl 0 rfl ?_
      refine v_getR C v_cl4 (by decide) in_4 rfl w_211 dA_layCode_45 (fun a11 => ?_)
      refine v_iload_n C dA_layCode_48 rfl 2 rfl ?_
      refine v_aload_n C dA_layCode_49 rfl 0 rfl ?_
      refine v_getI C v_cl4 (by decide) in_4 rfl w_202 dA_layCode_50 (fun x12 => ?_)
      refine v_gd fun hO13 => ?_
      refine v_bind fun r14 hr14 => ?_
      refine v_callV0 (N := 2) (As := [.int p2, .int x12]) (st := []) C (fun f => f.elim) (mC_appendNumber l r10 z0 a11 p2 x12 r14 hr14) rfl w_310 w_50 (by decide +kernel) ⟨Nat.le_of_ble_eq_true rfl, Nat.le_of_ble_eq_true rfl⟩ rfl rfl (Nat.le_of_ble_eq_true rfl) ⟨Nat.zero_le _, Nat.zero_le _⟩ w_307 w_308 w_309 v_cl0 rfl hO13 dA_layCode_53 ?_
      refine v_lv (lv' := []) [] rfl ?_
      exact Hj6 r14
    · refine v_aload_n C dA_layCode_16 rfl 1 rfl ?_
      refine v_aload_n C dA_layCode_17 rfl 1 rfl ?_
      refine v_iload_n C dA_layCode_18 rfl 2 rfl ?_
      refine v_gd fun hO15 => ?_
      refine v_bind fun r16 hr16 => ?_
      refine v_callV0 (N := 1) (As := [.int p2]) (st := [.ref u1]) C (fun _ => trivial) (mT_leafOf l h2 z0 u1 p2 r16 hr16) rfl w_285 w_52 (by decide +kernel) ⟨Nat.le_of_ble_eq_true rfl, Nat.le_of_ble_eq_true rfl⟩ rfl rfl (Nat.le_of_ble_eq_true rfl) ⟨Nat.zero_le _, Nat.zero_le _⟩ w_286 w_283 w_284 v_cl3 rfl hO15 dA_layCode_19 ?_
      refine v_aload_n C dA_layCode_22 rfl 0 rfl ?_
      refine v_getR C v_cl4 (by decide) in_4 rfl w_211 dA_layCode_23 (fun a17 => ?_)
      refine v_gd fun hO18 => ?_
      refine v_bind fun r19 hr19 => ?_
      refine v_callV0 (N := 2) (As := [.int r16, .ref a17]) (st := []) C (fun f => f.elim) (mT_layWayTo l h2 z0 u1 r16 a17 r19 hr19) rfl w_290 w_52 (by decide +kernel) ⟨Nat.le_of_ble_eq_true rfl, Nat.le_of_ble_eq_true rfl⟩ rfl rfl (Nat.le_of_ble_eq_true rfl) ⟨Nat.zero_le _, Nat.zero_le _⟩ w_287 w_288 w_289 v_cl3 rfl hO18 dA_layCode_26 ?_
      refine v_goto (tgt := 56) C dA_layCode_29 (by decide) ?_
      refine v_lv (lv' := []) [] rfl ?_
      exact Hj6 r19
theorem dC_bitAt_0 : decode prog_2_method_2_code 0 = .ok (.iload_n 1, 1) := by decide +kernel
theorem dC_bitAt_1 : decode prog_2_method_2_code 1 = .ok (.ifCond .lt 20, 3) := by decide +kernel
theorem dC_bitAt_4 : decode prog_2_method_2_code 4 = .ok (.iload_n 1, 1) := by decide +kernel
theorem dC_bitAt_5 : decode prog_2_method_2_code 5 = .ok (.aload_n 0, 1) := by decide +kernel
theorem dC_bitAt_6 : decode prog_2_method_2_code 6 = .ok (.getfield 9, 3) := by decide +kernel
theorem dC_bitAt_9 : decode prog_2_method_2_code 9 = .ok (.if_icmp .ge 12, 3) := by decide +kernel
theorem dC_bitAt_12 : decode prog_2_method_2_code 12 = .ok (.aload_n 0, 1) := by decide +kernel
theorem dC_bitAt_13 : decode prog_2_method_2_code 13 = .ok (.getfield 15, 3) := by decide +kernel
theorem dC_bitAt_16 : decode prog_2_method_2_code 16 = .ok (.iload_n 1, 1) := by decide +kernel
theorem dC_bitAt_17 : decode prog_2_method_2_code 17 = .ok (.iaload, 1) := by decide +kernel
theorem dC_bitAt_18 : decode prog_2_method_2_code 18 = .ok (.goto 4, 3) := by decide +kernel
theorem dC_bitAt_21 : decode prog_2_method_2_code 21 = .ok (.iconst (-1), 1) := by decide +kernel
theorem dC_bitAt_22 : decode prog_2_method_2_code 22 = .ok (.ireturn, 1) := by decide +kernel
def FC_bitAt (h0 : Hp) (a0 : Nat) (p1 : Int32) : Option Int32 :=
  jn (fun (y1 : Int32) =>
  some y1)
  (fun (j2 : Int32 → Option Int32) =>
  jn (j2 (-1))
  (fun (j3 : Option Int32) =>
  if p1 < 0 then
    (j3)
  else
    (gI h0 a0 0 1 (fun x4 =>
    if x4 ≤ p1 then
      (j3)
    else
      (gR h0 a0 0 0 (fun a5 =>
      ldI h0 a5 0 p1 (fun x6 =>
      j2 x6)))))))
set_option maxRecDepth 100000 in
set_option maxHeartbeats 4000000 in
theorem mC_bitAt (l : Launch) (h0 : Hp) (z0 : Nat) (a0 : Nat) (p1 : Int32) (r : Int32) (hr : FC_bitAt h0 a0 p1 = some r) : vM True l yC_bitAt (Cond.code yC_bitAt prog_2_method_2_code 2 (some (.int)) :: gW) 0 [.ref a0, .int p1] h0 z0 h0 z0 (some (.int r)) 0 0 := by
  refine vM.of (by decide) rfl (Nat.le_of_ble_eq_true rfl) ?_
  intro p e s m args below meth c D dA C hin2
  refine (?_ : vO p l e (vR 0 0 0) s m args below meth c D dA (vA h0 z0) 2 True (fun r : Int32 => MQ below (vQc True h0 z0 D dA h0 z0 (some (.int r))) args s 0 0 (vAr True h0 z0)) 0 0 h0 z0 [(0, .ref a0), (1, .int p1)] 0 [] (FC_bitAt h0 a0 p1)) r hr
  obtain ⟨Q, hQ⟩ : ∃ Q : Int32 → State → Prop, Q = (fun r : Int32 => MQ below (vQc True h0 z0 D dA h0 z0 (some (.int r))) args s 0 0 (vAr True h0 z0)) := ⟨_, rfl⟩
  rw [← hQ]
  unfold FC_bitAt
  refine v_iload_n C dC_bitAt_0 rfl 1 rfl ?_
  refine v_jn (fun (j : Int32 → Option Int32) => ∀ (y1 : Int32), vO p l e (vR 0 0 0) s m args below meth c D dA (vA h0 z0) 2 True Q 0 0 h0 z0 [] 22 [.int y1] (j y1)) ?_ (fun j2 Hj2 => ?_)
  · intro y1
    exact v_iret C dC_bitAt_22 (by rw [hQ])
  · refine v_jn (fun (j : Option Int32) => vO p l e (vR 0 0 0) s m args below meth c D dA (vA h0 z0) 2 True Q 0 0 h0 z0 [] 21 [] j) ?_ (fun j3 Hj3 => ?_)
    · refine v_iconst (v := (-1)) C dC_bitAt_21 (by decide) ?_
      exact Hj2 (-1)
    · refine v_if_lt (tgt := 21) C dC_bitAt_1 (by decide) ?_ ?_
      · refine v_lv (lv' := []) [] rfl ?_
        exact Hj3
      · refine v_iload_n C dC_bitAt_4 rfl 1 rfl ?_
        refine v_aload_n C dC_bitAt_5 rfl 0 rfl ?_
        refine v_getI C v_cl0 (by decide) in_0 rfl w_112 dC_bitAt_6 (fun x4 => ?_)
        refine v_icmp_ge (tgt := 21) C dC_bitAt_9 (by decide) ?_ ?_
        · refine v_lv (lv' := []) [] rfl ?_
          exact Hj3
        · refine v_aload_n C dC_bitAt_12 rfl 0 rfl ?_
          refine v_getR C v_cl0 (by decide) in_0 rfl w_111 dC_bitAt_13 (fun a5 => ?_)
          refine v_iload_n C dC_bitAt_16 rfl 1 rfl ?_
          refine v_iald C rfl dC_bitAt_17 (fun x6 => ?_)
          refine v_goto (tgt := 22) C dC_bitAt_18 (by decide) ?_
          refine v_lv (lv' := []) [] rfl ?_
          exact Hj2 x6
theorem dT_putChild_0 : decode prog_5_method_24_code 0 = .ok (.aload_n 0, 1) := by decide +kernel
theorem dT_putChild_1 : decode prog_5_method_24_code 1 = .ok (.iload_n 1, 1) := by decide +kernel
theorem dT_putChild_2 : decode prog_5_method_24_code 2 = .ok (.invokevirtual 64, 3) := by decide +kernel
theorem dT_putChild_5 : decode prog_5_method_24_code 5 = .ok (.ifCond .eq 11, 3) := by decide +kernel
theorem dT_putChild_8 : decode prog_5_method_24_code 8 = .ok (.aload_n 0, 1) := by decide +kernel
theorem dT_putChild_9 : decode prog_5_method_24_code 9 = .ok (.iload_n 3, 1) := by decide +kernel
theorem dT_putChild_10 : decode prog_5_method_24_code 10 = .ok (.invokevirtual 64, 3) := by decide +kernel
theorem dT_putChild_13 : decode prog_5_method_24_code 13 = .ok (.ifCond .ne 4, 3) := by decide +kernel
theorem dT_putChild_16 : decode prog_5_method_24_code 16 = .ok (.return_, 1) := by decide +kernel
theorem dT_putChild_17 : decode prog_5_method_24_code 17 = .ok (.aload_n 0, 1) := by decide +kernel
theorem dT_putChild_18 : decode prog_5_method_24_code 18 = .ok (.getfield 45, 3) := by decide +kernel
theorem dT_putChild_21 : decode prog_5_method_24_code 21 = .ok (.iload_n 1, 1) := by decide +kernel
theorem dT_putChild_22 : decode prog_5_method_24_code 22 = .ok (.iaload, 1) := by decide +kernel
theorem dT_putChild_23 : decode prog_5_method_24_code 23 = .ok (.iload_n 2, 1) := by decide +kernel
theorem dT_putChild_24 : decode prog_5_method_24_code 24 = .ok (.if_icmp .ne 13, 3) := by decide +kernel
theorem dT_putChild_27 : decode prog_5_method_24_code 27 = .ok (.aload_n 0, 1) := by decide +kernel
theorem dT_putChild_28 : decode prog_5_method_24_code 28 = .ok (.getfield 45, 3) := by decide +kernel
theorem dT_putChild_31 : decode prog_5_method_24_code 31 = .ok (.iload_n 1, 1) := by decide +kernel
theorem dT_putChild_32 : decode prog_5_method_24_code 32 = .ok (.iload_n 3, 1) := by decide +kernel
theorem dT_putChild_33 : decode prog_5_method_24_code 33 = .ok (.iastore, 1) := by decide +kernel
theorem dT_putChild_34 : decode prog_5_method_24_code 34 = .ok (.goto 10, 3) := by decide +kernel
theorem dT_putChild_37 : decode prog_5_method_24_code 37 = .ok (.aload_n 0, 1) := by decide +kernel
theorem dT_putChild_38 : decode prog_5_method_24_code 38 = .ok (.getfield 48, 3) := by decide +kernel
theorem dT_putChild_41 : decode prog_5_method_24_code 41 = .ok (.iload_n 1, 1) := by decide +kernel
theorem dT_putChild_42 : decode prog_5_method_24_code 42 = .ok (.iload_n 3, 1) := by decide +kernel
theorem dT_putChild_43 : decode prog_5_method_24_code 43 = .ok (.iastore, 1) := by decide +kernel
theorem dT_putChild_44 : decode prog_5_method_24_code 44 = .ok (.aload_n 0, 1) := by decide +kernel
theorem dT_putChild_45 : decode prog_5_method_24_code 45 = .ok (.getfield 42, 3) := by decide +kernel
theorem dT_putChild_48 : decode prog_5_method_24_code 48 = .ok (.iload_n 3, 1) := by decide +kernel
theorem dT_putChild_49 : decode prog_5_method_24_code 49 = .ok (.iload_n 1, 1) := by decide +kernel
theorem dT_putChild_50 : decode prog_5_method_24_code 50 = .ok (.iastore, 1) := by decide +kernel
theorem dT_putChild_51 : decode prog_5_method_24_code 51 = .ok (.return_, 1) := by decide +kernel
def FT_putChild (h0 : Hp) (a0 : Nat) (p1 : Int32) (p2 : Int32) (p3 : Int32) : Option Hp :=
  gd (isO h0 a0 3 = true) ((FT_hasNode h0 a0 p1).bind (fun r2 =>
  jn (some h0)
  (fun (j3 : Option Hp) =>
  if r2 = 0 then
    (j3)
  else
    (gd (isO h0 a0 3 = true) ((FT_hasNode h0 a0 p3).bind (fun r5 =>
    if r5 = 0 then
      (j3)
    else
      (gR h0 a0 3 5 (fun a6 =>
      ldI h0 a6 0 p1 (fun x7 =>
      jn (fun (h8 : Hp) =>
      gR h8 a0 3 4 (fun a10 =>
      stI h8 a10 0 p3 p1 (fun h11 =>
      some h11)))
      (fun (j9 : Hp → Option Hp) =>
      if x7 = p2 then
        (gR h0 a0 3 5 (fun a14 =>
        stI h0 a14 0 p1 p3 (fun h15 =>
        j9 h15)))
      else
        (gR h0 a0 3 6 (fun a12 =>
        stI h0 a12 0 p1 p3 (fun h13 =>
        j9 h13)))))))))))))
set_option maxRecDepth 100000 in
set_option maxHeartbeats 4000000 in
theorem mT_putChild (l : Launch) (h0 : Hp) (z0 : Nat) (a0 : Nat) (p1 : Int32) (p2 : Int32) (p3 : Int32) (r : Hp) (hr : FT_putChild h0 a0 p1 p2 p3 = some r) : vM False l yT_putChild (Cond.code yT_putChild prog_5_method_24_code 4 none :: gW) 1 [.ref a0, .int p1, .int p2, .int p3] h0 z0 r z0 none 0 0 := by
  refine vM.of (by decide) rfl (Nat.le_of_ble_eq_true rfl) ?_
  intro p e s m args below meth c D dA C hin2
  refine (?_ : vO p l e (vR 1 0 0) s m args below meth c D dA (vA h0 z0) 4 False (fun r : Hp => MQ below (vQc False h0 z0 D dA r z0 none) args s 0 0 (vAr False h0 z0)) 0 0 h0 z0 [(0, .ref a0), (1, .int p1), (2, .int p2), (3, .int p3)] 0 [] (FT_putChild h0 a0 p1 p2 p3)) r hr
  obtain ⟨Q, hQ⟩ : ∃ Q : Hp → State → Prop, Q = (fun r : Hp => MQ below (vQc False h0 z0 D dA r z0 none) args s 0 0 (vAr False h0 z0)) := ⟨_, rfl⟩
  rw [← hQ]
  unfold FT_putChild
  refine v_aload_n C dT_putChild_0 rfl 0 rfl ?_
  refine v_iload_n C dT_putChild_1 rfl 1 rfl ?_
  refine v_gd fun hO1 => ?_
  refine v_bind fun r2 hr2 => ?_
  refine v_callV0 (N := 1) (As := [.int p1]) (st := []) C (fun _ => trivial) (mT_hasNode l h0 z0 a0 p1 r2 hr2) rfl w_159 w_52 (by decide +kernel) ⟨Nat.le_of_ble_eq_true rfl, Nat.le_of_ble_eq_true rfl⟩ rfl rfl (Nat.le_of_ble_eq_true rfl) ⟨Nat.zero_le _, Nat.zero_le _⟩ w_156 w_157 w_158 v_cl3 rfl hO1 dT_putChild_2 ?_
  refine v_jn (fun (j : Option Hp) => vO p l e (vR 1 0 0) s m args below meth c D dA (vA h0 z0) 4 False Q 0 0 h0 z0 [] 16 [] j) ?_ (fun j3 Hj3 => ?_)
  · exact v_vret C dT_putChild_16 (by rw [hQ])
  · refine v_if_eq (tgt := 16) C dT_putChild_5 (by decide) ?_ ?_
    · refine v_lv (lv' := []) [] rfl ?_
      exact Hj3
    · refine v_aload_n C dT_putChild_8 rfl 0 rfl ?_
      refine v_iload_n C dT_putChild_9 rfl 3 rfl ?_
      refine v_gd fun hO4 => ?_
      refine v_bind fun r5 hr5 => ?_
      refine v_callV0 (N := 1) (As := [.int p3]) (st := []) C (fun _ => trivial) (mT_hasNode l h0 z0 a0 p3 r5 hr5) rfl w_159 w_52 (by decide +kernel) ⟨Nat.le_of_ble_eq_true rfl, Nat.le_of_ble_eq_true rfl⟩ rfl rfl (Nat.le_of_ble_eq_true rfl) ⟨Nat.zero_le _, Nat.zero_le _⟩ w_156 w_157 w_158 v_cl3 rfl hO4 dT_putChild_10 ?_
      refine v_if_ne (tgt := 17) C dT_putChild_13 (by decide) ?_ ?_
      · refine v_aload_n C dT_putChild_17 rfl 0 rfl ?_
        refine v_getR C v_cl3 (by decide) in_3 rfl w_165 dT_putChild_18 (fun a6 => ?_)
        refine v_iload_n C dT_putChild_21 rfl 1 rfl ?_
        refine v_iald C rfl dT_putChild_22 (fun x7 => ?_)
        refine v_iload_n C dT_putChild_23 rfl 2 rfl ?_
        refine v_jn (fun (j : Hp → Option Hp) => ∀ (h8 : Hp), vO p l e (vR 1 0 0) s m args below meth c D dA (vA h0 z0) 4 False Q 0 0 h8 z0 [(0, .ref a0), (1, .int p1), (3, .int p3)] 44 [] (j h8)) ?_ (fun j9 Hj9 => ?_)
        · intro h8
          refine v_aload_n C dT_putChild_44 rfl 0 rfl ?_
          refine v_getR C v_cl3 (by decide) in_3 rfl w_164 dT_putChild_45 (fun a10 => ?_)
          refine v_iload_n C dT_putChild_48 rfl 2 rfl ?_
          refine v_iload_n C dT_putChild_49 rfl 1 rfl ?_
          refine v_iast C rfl dT_putChild_50 (fun h11 => ?_)
          exact v_vret C dT_putChild_51 (by rw [hQ])
        · refine v_icmp_ne (tgt := 37) C dT_putChild_24 (by decide) ?_ ?_
          · refine v_aload_n C dT_putChild_37 rfl 0 rfl ?_
            refine v_getR C v_cl3 (by decide) in_3 rfl w_166 dT_putChild_38 (fun a12 => ?_)
            refine v_iload_n C dT_putChild_41 rfl 1 rfl ?_
            refine v_iload_n C dT_putChild_42 rfl 3 rfl ?_
            refine v_iast C rfl dT_putChild_43 (fun h13 => ?_)
            refine v_lv (lv' := [(0, .ref a0), (1, .int p1), (3, .int p3)]) [0, 1, 3] rfl ?_
            exact Hj9 h13
          · refine v_aload_n C dT_putChild_27 rfl 0 rfl ?_
            refine v_getR C v_cl3 (by decide) in_3 rfl w_165 dT_putChild_28 (fun a14 => ?_)
            refine v_iload_n C dT_putChild_31 rfl 1 rfl ?_
            refine v_iload_n C dT_putChild_32 rfl 3 rfl ?_
            refine v_iast C rfl dT_putChild_33 (fun h15 => ?_)
            refine v_goto (tgt := 44) C dT_putChild_34 (by decide) ?_
            refine v_lv (lv' := [(0, .ref a0), (1, .int p1), (3, .int p3)]) [0, 1, 3] rfl ?_
            exact Hj9 h15
      · refine v_lv (lv' := []) [] rfl ?_
        exact Hj3
theorem dT_stepSplayed_0 : decode prog_5_method_23_code 0 = .ok (.aload_n 0, 1) := by decide +kernel
theorem dT_stepSplayed_1 : decode prog_5_method_23_code 1 = .ok (.iload_n 1, 1) := by decide +kernel
theorem dT_stepSplayed_2 : decode prog_5_method_23_code 2 = .ok (.invokevirtual 68, 3) := by decide +kernel
theorem dT_stepSplayed_5 : decode prog_5_method_23_code 5 = .ok (.istore_n 2, 1) := by decide +kernel
theorem dT_stepSplayed_6 : decode prog_5_method_23_code 6 = .ok (.iconst 0, 1) := by decide +kernel
theorem dT_stepSplayed_7 : decode prog_5_method_23_code 7 = .ok (.istore_n 3, 1) := by decide +kernel
theorem dT_stepSplayed_8 : decode prog_5_method_23_code 8 = .ok (.iload_n 3, 1) := by decide +kernel
theorem dT_stepSplayed_9 : decode prog_5_method_23_code 9 = .ok (.aload_n 0, 1) := by decide +kernel
theorem dT_stepSplayed_10 : decode prog_5_method_23_code 10 = .ok (.getfield 15, 3) := by decide +kernel
theorem dT_stepSplayed_13 : decode prog_5_method_23_code 13 = .ok (.if_icmp .ge 77, 3) := by decide +kernel
theorem dT_stepSplayed_16 : decode prog_5_method_23_code 16 = .ok (.aload_n 0, 1) := by decide +kernel
theorem dT_stepSplayed_17 : decode prog_5_method_23_code 17 = .ok (.iload_n 2, 1) := by decide +kernel
theorem dT_stepSplayed_18 : decode prog_5_method_23_code 18 = .ok (.invokevirtual 71, 3) := by decide +kernel
theorem dT_stepSplayed_21 : decode prog_5_method_23_code 21 = .ok (.istore 4, 2) := by decide +kernel
theorem dT_stepSplayed_23 : decode prog_5_method_23_code 23 = .ok (.aload_n 0, 1) := by decide +kernel
theorem dT_stepSplayed_24 : decode prog_5_method_23_code 24 = .ok (.iload 4, 2) := by decide +kernel
theorem dT_stepSplayed_26 : decode prog_5_method_23_code 26 = .ok (.invokevirtual 71, 3) := by decide +kernel
theorem dT_stepSplayed_29 : decode prog_5_method_23_code 29 = .ok (.istore 5, 2) := by decide +kernel
theorem dT_stepSplayed_31 : decode prog_5_method_23_code 31 = .ok (.iload 5, 2) := by decide +kernel
theorem dT_stepSplayed_33 : decode prog_5_method_23_code 33 = .ok (.iconst (-1), 1) := by decide +kernel
theorem dT_stepSplayed_34 : decode prog_5_method_23_code 34 = .ok (.if_icmp .ne 4, 3) := by decide +kernel
theorem dT_stepSplayed_37 : decode prog_5_method_23_code 37 = .ok (.return_, 1) := by decide +kernel
theorem dT_stepSplayed_38 : decode prog_5_method_23_code 38 = .ok (.aload_n 0, 1) := by decide +kernel
theorem dT_stepSplayed_39 : decode prog_5_method_23_code 39 = .ok (.iload 5, 2) := by decide +kernel
theorem dT_stepSplayed_41 : decode prog_5_method_23_code 41 = .ok (.aload_n 0, 1) := by decide +kernel
theorem dT_stepSplayed_42 : decode prog_5_method_23_code 42 = .ok (.iload 5, 2) := by decide +kernel
theorem dT_stepSplayed_44 : decode prog_5_method_23_code 44 = .ok (.iconst 0, 1) := by decide +kernel
theorem dT_stepSplayed_45 : decode prog_5_method_23_code 45 = .ok (.invokevirtual 74, 3) := by decide +kernel
theorem dT_stepSplayed_48 : decode prog_5_method_23_code 48 = .ok (.iload 4, 2) := by decide +kernel
theorem dT_stepSplayed_50 : decode prog_5_method_23_code 50 = .ok (.if_icmp .ne 7, 3) := by decide +kernel
theorem dT_stepSplayed_53 : decode prog_5_method_23_code 53 = .ok (.iconst 1, 1) := by decide +kernel
theorem dT_stepSplayed_54 : decode prog_5_method_23_code 54 = .ok (.goto 4, 3) := by decide +kernel
theorem dT_stepSplayed_57 : decode prog_5_method_23_code 57 = .ok (.iconst 0, 1) := by decide +kernel
theorem dT_stepSplayed_58 : decode prog_5_method_23_code 58 = .ok (.invokevirtual 74, 3) := by decide +kernel
theorem dT_stepSplayed_61 : decode prog_5_method_23_code 61 = .ok (.istore 6, 2) := by decide +kernel
theorem dT_stepSplayed_63 : decode prog_5_method_23_code 63 = .ok (.aload_n 0, 1) := by decide +kernel
theorem dT_stepSplayed_64 : decode prog_5_method_23_code 64 = .ok (.iload 4, 2) := by decide +kernel
theorem dT_stepSplayed_66 : decode prog_5_method_23_code 66 = .ok (.iload_n 2, 1) := by decide +kernel
theorem dT_stepSplayed_67 : decode prog_5_method_23_code 67 = .ok (.iload 6, 2) := by decide +kernel
theorem dT_stepSplayed_69 : decode prog_5_method_23_code 69 = .ok (.invokevirtual 135, 3) := by decide +kernel
theorem dT_stepSplayed_72 : decode prog_5_method_23_code 72 = .ok (.aload_n 0, 1) := by decide +kernel
theorem dT_stepSplayed_73 : decode prog_5_method_23_code 73 = .ok (.iload 5, 2) := by decide +kernel
theorem dT_stepSplayed_75 : decode prog_5_method_23_code 75 = .ok (.iload 6, 2) := by decide +kernel
theorem dT_stepSplayed_77 : decode prog_5_method_23_code 77 = .ok (.iload_n 2, 1) := by decide +kernel
theorem dT_stepSplayed_78 : decode prog_5_method_23_code 78 = .ok (.invokevirtual 135, 3) := by decide +kernel
theorem dT_stepSplayed_81 : decode prog_5_method_23_code 81 = .ok (.iload 5, 2) := by decide +kernel
theorem dT_stepSplayed_83 : decode prog_5_method_23_code 83 = .ok (.istore_n 2, 1) := by decide +kernel
theorem dT_stepSplayed_84 : decode prog_5_method_23_code 84 = .ok (.iinc 3 1, 3) := by decide +kernel
theorem dT_stepSplayed_87 : decode prog_5_method_23_code 87 = .ok (.goto (-79), 3) := by decide +kernel
theorem dT_stepSplayed_90 : decode prog_5_method_23_code 90 = .ok (.return_, 1) := by decide +kernel
def LT_stepSplayed_8 (a0 : Nat) (K4 : Hp → Option Hp) (K6 : Hp → Option Hp) (rec10 : Hp → Int32 → Int32 → Option Hp) (h7 : Hp) (x8 : Int32) (x9 : Int32) : Option Hp :=
  gI h7 a0 3 9 (fun x11 =>
  if x11 ≤ x9 then
    (K4 h7)
  else
    (gd (isO h7 a0 3 = true) ((FT_parentOf h7 a0 x8).bind (fun r13 =>
    gd (isO h7 a0 3 = true) ((FT_parentOf h7 a0 r13).bind (fun r15 =>
    if r15 = (-1) then
      (K6 h7)
    else
      (gd (isO h7 a0 3 = true) ((FT_childOf h7 a0 r15 0).bind (fun r17 =>
      jn (fun (y18 : Int32) (y19 : Int32) (b20 : Nat) =>
      gd (isO h7 b20 3 = true) ((FT_childOf h7 b20 y19 y18).bind (fun r23 =>
      gd (isO h7 a0 3 = true) ((FT_putChild h7 a0 r13 x8 r23).bind (fun r25 =>
      gd (isO r25 a0 3 = true) ((FT_putChild r25 a0 r15 r23 x8).bind (fun r27 =>
      rec10 r27 r15 (x9 + 1))))))))
      (fun (j21 : Int32 → Int32 → Nat → Option Hp) =>
      if r17 = r13 then
        (j21 1 r15 a0)
      else
        (j21 0 r15 a0)))))))))))
def FT_stepSplayed (h0 : Hp) (a0 : Nat) (p1 : Int32) : Option Hp :=
  gd (isO h0 a0 3 = true) ((FT_leafOf h0 a0 p1).bind (fun r2 =>
  jn (fun (h3 : Hp) =>
  some h3)
  (fun (K4 : Hp → Option Hp) =>
  jn (fun (h5 : Hp) =>
  some h5)
  (fun (K6 : Hp → Option Hp) =>
  lpG (fun _ _ _ => none) fu (LT_stepSplayed_8 a0 K4 K6) h0 r2 0))))
set_option maxRecDepth 100000 in
set_option maxHeartbeats 4000000 in
theorem mT_stepSplayed (l : Launch) (h0 : Hp) (z0 : Nat) (a0 : Nat) (p1 : Int32) (r : Hp) (hr : FT_stepSplayed h0 a0 p1 = some r) : vM False l yT_stepSplayed (Cond.code yT_stepSplayed prog_5_method_23_code 7 none :: gW) 2 [.ref a0, .int p1] h0 z0 r z0 none 0 0 := by
  refine vM.of (by decide) rfl (Nat.le_of_ble_eq_true rfl) ?_
  intro p e s m args below meth c D dA C hin2
  refine (?_ : vO p l e (vR 2 0 0) s m args below meth c D dA (vA h0 z0) 7 False (fun r : Hp => MQ below (vQc False h0 z0 D dA r z0 none) args s 0 0 (vAr False h0 z0)) 0 0 h0 z0 [(0, .ref a0), (1, .int p1)] 0 [] (FT_stepSplayed h0 a0 p1)) r hr
  obtain ⟨Q, hQ⟩ : ∃ Q : Hp → State → Prop, Q = (fun r : Hp => MQ below (vQc False h0 z0 D dA r z0 none) args s 0 0 (vAr False h0 z0)) := ⟨_, rfl⟩
  rw [← hQ]
  unfold FT_stepSplayed
  refine v_aload_n C dT_stepSplayed_0 rfl 0 rfl ?_
  refine v_iload_n C dT_stepSplayed_1 rfl 1 rfl ?_
  refine v_gd fun hO1 => ?_
  refine v_bind fun r2 hr2 => ?_
  refine v_callV0 (N := 1) (As := [.int p1]) (st := []) C (fun _ => trivial) (mT_leafOf l h0 z0 a0 p1 r2 hr2) rfl w_285 w_52 (by decide +kernel) ⟨Nat.le_of_ble_eq_true rfl, Nat.le_of_ble_eq_true rfl⟩ rfl rfl (Nat.le_of_ble_eq_true rfl) ⟨Nat.zero_le _, Nat.zero_le _⟩ w_282 w_283 w_284 v_cl3 rfl hO1 dT_stepSplayed_2 ?_
  refine v_istore_n (lv' := [(0, .ref a0), (2, .int r2)]) C dT_stepSplayed_5 rfl (by decide) [1, 0] rfl ?_
  refine v_iconst (v := 0) C dT_stepSplayed_6 (by decide) ?_
  refine v_istore_n (lv' := [(0, .ref a0), (2, .int r2), (3, .int 0)]) C dT_stepSplayed_7 rfl (by decide) [1, 2, 0] rfl ?_
  refine v_jn (fun (j : Hp → Option Hp) => ∀ (h3 : Hp), vO p l e (vR 2 0 0) s m args below meth c D dA (vA h0 z0) 7 False Q 0 0 h3 z0 [] 90 [] (j h3)) ?_ (fun K4 HK4 => ?_)
  · intro h3
    exact v_vret C dT_stepSplayed_90 (by rw [hQ])
  · refine v_jn (fun (j : Hp → Option Hp) => ∀ (h5 : Hp), vO p l e (vR 2 0 0) s m args below meth c D dA (vA h0 z0) 7 False Q 0 0 h5 z0 [] 37 [] (j h5)) ?_ (fun K6 HK6 => ?_)
    · intro h5
      exact v_vret C dT_stepSplayed_37 (by rw [hQ])
    · refine lpG_ind (bot := (fun _ _ _ => none)) (B := LT_stepSplayed_8 a0 K4 K6) (fun (r : Hp → Int32 → Int32 → Option Hp) => ∀ (h7 : Hp), ∀ (x8 : Int32), ∀ (x9 : Int32), vO p l e (vR 2 0 0) s m args below meth c D dA (vA h0 z0) 7 False Q 0 0 h7 z0 [(0, .ref a0), (2, .int x8), (3, .int x9)] 8 [] (r h7 x8 x9)) ?_ ?_ fu h0 r2 0
      · intro h7 x8 x9
        exact v_none
      · intro rec10 Hrec10 h7 x8 x9
        unfold LT_stepSplayed_8
        refine v_iload_n C dT_stepSplayed_8 rfl 2 rfl ?_
        refine v_aload_n C dT_stepSplayed_9 rfl 0 rfl ?_
        refine v_getI C v_cl3 (by decide) in_3 rfl w_170 dT_stepSplayed_10 (fun x11 => ?_)
        refine v_icmp_ge (tgt := 90) C dT_stepSplayed_13 (by decide) ?_ ?_
        · refine v_lv (lv' := []) [] rfl ?_
          exact HK4 h7
        · refine v_aload_n C dT_stepSplayed_16 rfl 0 rfl ?_
          refine v_iload_n C dT_stepSplayed_17 rfl 1 rfl ?_
          refine v_gd fun hO12 => ?_
          refine v_bind fun r13 hr13 => ?_
          refine v_callV0 (N := 1) (As := [.int x8]) (st := []) C (fun _ => trivial) (mT_parentOf l h7 z0 a0 x8 r13 hr13) rfl w_294 w_52 (by decide +kernel) ⟨Nat.le_of_ble_eq_true rfl, Nat.le_of_ble_eq_true rfl⟩ rfl rfl (Nat.le_of_ble_eq_true rfl) ⟨Nat.zero_le _, Nat.zero_le _⟩ w_291 w_292 w_293 v_cl3 rfl hO12 dT_stepSplayed_18 ?_
          refine v_istore (lv' := [(0, .ref a0), (2, .int x8), (3, .int x9), (4, .int r13)]) C dT_stepSplayed_21 (by decide) [1, 2, 3, 0] rfl ?_
          refine v_aload_n C dT_stepSplayed_23 rfl 0 rfl ?_
          refine v_iload C dT_stepSplayed_24 3 rfl ?_
          refine v_gd fun hO14 => ?_
          refine v_bind fun r15 hr15 => ?_
          refine v_callV0 (N := 1) (As := [.int r13]) (st := []) C (fun _ => trivial) (mT_parentOf l h7 z0 a0 r13 r15 hr15) rfl w_294 w_52 (by decide +kernel) ⟨Nat.le_of_ble_eq_true rfl, Nat.le_of_ble_eq_true rfl⟩ rfl rfl (Nat.le_of_ble_eq_true rfl) ⟨Nat.zero_le _, Nat.zero_le _⟩ w_291 w_292 w_293 v_cl3 rfl hO14 dT_stepSplayed_26 ?_
          refine v_istore (lv' := [(0, .ref a0), (2, .int x8), (3, .int x9), (4, .int r13), (5, .int r15)]) C dT_stepSplayed_29 (by decide) [1, 2, 3, 4, 0] rfl ?_
          refine v_iload C dT_stepSplayed_31 4 rfl ?_
          refine v_iconst (v := (-1)) C dT_stepSplayed_33 (by decide) ?_
          refine v_icmp_ne (tgt := 38) C dT_stepSplayed_34 (by decide) ?_ ?_
          · refine v_aload_n C dT_stepSplayed_38 rfl 0 rfl ?_
            refine v_iload C dT_stepSplayed_39 4 rfl ?_
            refine v_aload_n C dT_stepSplayed_41 rfl 0 rfl ?_
            refine v_iload C dT_stepSplayed_42 4 rfl ?_
            refine v_iconst (v := 0) C dT_stepSplayed_44 (by decide) ?_
            refine v_gd fun hO16 => ?_
            refine v_bind fun r17 hr17 => ?_
            refine v_callV0 (N := 2) (As := [.int r15, .int 0]) (st := [.int r15, .ref a0]) C (fun _ => trivial) (mT_childOf l h7 z0 a0 r15 0 r17 hr17) rfl w_298 w_52 (by decide +kernel) ⟨Nat.le_of_ble_eq_true rfl, Nat.le_of_ble_eq_true rfl⟩ rfl rfl (Nat.le_of_ble_eq_true rfl) ⟨Nat.zero_le _, Nat.zero_le _⟩ w_295 w_296 w_297 v_cl3 rfl hO16 dT_stepSplayed_45 ?_
            refine v_iload C dT_stepSplayed_48 3 rfl ?_
            refine v_jn (fun (j : Int32 → Int32 → Nat → Option Hp) => ∀ (y18 : Int32), ∀ (y19 : Int32), ∀ (b20 : Nat), vO p l e (vR 2 0 0) s m args below meth c D dA (vA h0 z0) 7 False Q 0 0 h7 z0 [(0, .ref a0), (2, .int x8), (3, .int x9), (4, .int r13), (5, .int r15)] 58 [.int y18, .int y19, .ref b20] (j y18 y19 b20)) ?_ (fun j21 Hj21 => ?_)
            · intro y18 y19 b20
              refine v_gd fun hO22 => ?_
              refine v_bind fun r23 hr23 => ?_
              refine v_callV0 (N := 2) (As := [.int y19, .int y18]) (st := []) C (fun _ => trivial) (mT_childOf l h7 z0 b20 y19 y18 r23 hr23) rfl w_298 w_52 (by decide +kernel) ⟨Nat.le_of_ble_eq_true rfl, Nat.le_of_ble_eq_true rfl⟩ rfl rfl (Nat.le_of_ble_eq_true rfl) ⟨Nat.zero_le _, Nat.zero_le _⟩ w_295 w_296 w_297 v_cl3 rfl hO22 dT_stepSplayed_58 ?_
              refine v_istore (lv' := [(0, .ref a0), (2, .int x8), (3, .int x9), (4, .int r13), (5, .int r15), (6, .int r23)]) C dT_stepSplayed_61 (by decide) [1, 2, 3, 4, 5, 0] rfl ?_
              refine v_aload_n C dT_stepSplayed_63 rfl 0 rfl ?_
              refine v_iload C dT_stepSplayed_64 3 rfl ?_
              refine v_iload_n C dT_stepSplayed_66 rfl 1 rfl ?_
              refine v_iload C dT_stepSplayed_67 5 rfl ?_
              refine v_gd fun hO24 => ?_
              refine v_bind fun r25 hr25 => ?_
              refine v_callV0 (N := 3) (As := [.int r13, .int x8, .int r23]) (st := []) C (fun f => f.elim) (mT_putChild l h7 z0 a0 r13 x8 r23 r25 hr25) rfl w_327 w_52 (by decide +kernel) ⟨Nat.le_of_ble_eq_true rfl, Nat.le_of_ble_eq_true rfl⟩ rfl rfl (Nat.le_of_ble_eq_true rfl) ⟨Nat.zero_le _, Nat.zero_le _⟩ w_324 w_326 w_6 v_cl3 rfl hO24 dT_stepSplayed_69 ?_
              refine v_aload_n C dT_stepSplayed_72 rfl 0 rfl ?_
              refine v_iload C dT_stepSplayed_73 4 rfl ?_
              refine v_iload C dT_stepSplayed_75 5 rfl ?_
              refine v_iload_n C dT_stepSplayed_77 rfl 1 rfl ?_
              refine v_gd fun hO26 => ?_
              refine v_bind fun r27 hr27 => ?_
              refine v_callV0 (N := 3) (As := [.int r15, .int r23, .int x8]) (st := []) C (fun f => f.elim) (mT_putChild l r25 z0 a0 r15 r23 x8 r27 hr27) rfl w_327 w_52 (by decide +kernel) ⟨Nat.le_of_ble_eq_true rfl, Nat.le_of_ble_eq_true rfl⟩ rfl rfl (Nat.le_of_ble_eq_true rfl) ⟨Nat.zero_le _, Nat.zero_le _⟩ w_324 w_326 w_6 v_cl3 rfl hO26 dT_stepSplayed_78 ?_
              refine v_iload C dT_stepSplayed_81 4 rfl ?_
              refine v_istore_n (lv' := [(0, .ref a0), (2, .int r15), (3, .int x9)]) C dT_stepSplayed_83 rfl (by decide) [1, 0, 2] rfl ?_
              refine v_iinc (v := (x9 + 1)) (lv' := [(0, .ref a0), (2, .int r15), (3, .int (x9 + 1))]) C dT_stepSplayed_84 2 rfl rfl (by decide) [1, 2, 0] rfl ?_
              refine v_goto (tgt := 8) C dT_stepSplayed_87 (by decide) ?_
              exact Hrec10 r27 r15 (x9 + 1)
            · refine v_icmp_ne (tgt := 57) C dT_stepSplayed_50 (by decide) ?_ ?_
              · refine v_iconst (v := 0) C dT_stepSplayed_57 (by decide) ?_
                exact Hj21 0 r15 a0
              · refine v_iconst (v := 1) C dT_stepSplayed_53 (by decide) ?_
                refine v_goto (tgt := 58) C dT_stepSplayed_54 (by decide) ?_
                exact Hj21 1 r15 a0
          · refine v_lv (lv' := []) [] rfl ?_
            exact HK6 h7
theorem dT_splitEscapeFor_0 : decode prog_5_method_16_code 0 = .ok (.aload_n 0, 1) := by decide +kernel
theorem dT_splitEscapeFor_1 : decode prog_5_method_16_code 1 = .ok (.getfield 18, 3) := by decide +kernel
theorem dT_splitEscapeFor_4 : decode prog_5_method_16_code 4 = .ok (.istore_n 2, 1) := by decide +kernel
theorem dT_splitEscapeFor_5 : decode prog_5_method_16_code 5 = .ok (.aload_n 0, 1) := by decide +kernel
theorem dT_splitEscapeFor_6 : decode prog_5_method_16_code 6 = .ok (.getfield 15, 3) := by decide +kernel
theorem dT_splitEscapeFor_9 : decode prog_5_method_16_code 9 = .ok (.istore_n 3, 1) := by decide +kernel
theorem dT_splitEscapeFor_10 : decode prog_5_method_16_code 10 = .ok (.aload_n 0, 1) := by decide +kernel
theorem dT_splitEscapeFor_11 : decode prog_5_method_16_code 11 = .ok (.iload_n 2, 1) := by decide +kernel
theorem dT_splitEscapeFor_12 : decode prog_5_method_16_code 12 = .ok (.invokevirtual 64, 3) := by decide +kernel
theorem dT_splitEscapeFor_15 : decode prog_5_method_16_code 15 = .ok (.ifCond .eq 14, 3) := by decide +kernel
theorem dT_splitEscapeFor_18 : decode prog_5_method_16_code 18 = .ok (.iload_n 3, 1) := by decide +kernel
theorem dT_splitEscapeFor_19 : decode prog_5_method_16_code 19 = .ok (.iconst 1, 1) := by decide +kernel
theorem dT_splitEscapeFor_20 : decode prog_5_method_16_code 20 = .ok (.iadd, 1) := by decide +kernel
theorem dT_splitEscapeFor_21 : decode prog_5_method_16_code 21 = .ok (.aload_n 0, 1) := by decide +kernel
theorem dT_splitEscapeFor_22 : decode prog_5_method_16_code 22 = .ok (.getfield 39, 3) := by decide +kernel
theorem dT_splitEscapeFor_25 : decode prog_5_method_16_code 25 = .ok (.arraylength, 1) := by decide +kernel
theorem dT_splitEscapeFor_26 : decode prog_5_method_16_code 26 = .ok (.if_icmp .lt 4, 3) := by decide +kernel
theorem dT_splitEscapeFor_29 : decode prog_5_method_16_code 29 = .ok (.return_, 1) := by decide +kernel
theorem dT_splitEscapeFor_30 : decode prog_5_method_16_code 30 = .ok (.aload_n 0, 1) := by decide +kernel
theorem dT_splitEscapeFor_31 : decode prog_5_method_16_code 31 = .ok (.dup, 1) := by decide +kernel
theorem dT_splitEscapeFor_32 : decode prog_5_method_16_code 32 = .ok (.getfield 15, 3) := by decide +kernel
theorem dT_splitEscapeFor_35 : decode prog_5_method_16_code 35 = .ok (.iconst 2, 1) := by decide +kernel
theorem dT_splitEscapeFor_36 : decode prog_5_method_16_code 36 = .ok (.iadd, 1) := by decide +kernel
theorem dT_splitEscapeFor_37 : decode prog_5_method_16_code 37 = .ok (.putfield 15, 3) := by decide +kernel
theorem dT_splitEscapeFor_40 : decode prog_5_method_16_code 40 = .ok (.aload_n 0, 1) := by decide +kernel
theorem dT_splitEscapeFor_41 : decode prog_5_method_16_code 41 = .ok (.iload_n 3, 1) := by decide +kernel
theorem dT_splitEscapeFor_42 : decode prog_5_method_16_code 42 = .ok (.iconst 0, 1) := by decide +kernel
theorem dT_splitEscapeFor_43 : decode prog_5_method_16_code 43 = .ok (.iload_n 1, 1) := by decide +kernel
theorem dT_splitEscapeFor_44 : decode prog_5_method_16_code 44 = .ok (.iconst (-1), 1) := by decide +kernel
theorem dT_splitEscapeFor_45 : decode prog_5_method_16_code 45 = .ok (.iconst (-1), 1) := by decide +kernel
theorem dT_splitEscapeFor_46 : decode prog_5_method_16_code 46 = .ok (.invokevirtual 60, 3) := by decide +kernel
theorem dT_splitEscapeFor_49 : decode prog_5_method_16_code 49 = .ok (.aload_n 0, 1) := by decide +kernel
theorem dT_splitEscapeFor_50 : decode prog_5_method_16_code 50 = .ok (.iload_n 3, 1) := by decide +kernel
theorem dT_splitEscapeFor_51 : decode prog_5_method_16_code 51 = .ok (.iconst 1, 1) := by decide +kernel
theorem dT_splitEscapeFor_52 : decode prog_5_method_16_code 52 = .ok (.iadd, 1) := by decide +kernel
theorem dT_splitEscapeFor_53 : decode prog_5_method_16_code 53 = .ok (.iconst 0, 1) := by decide +kernel
theorem dT_splitEscapeFor_54 : decode prog_5_method_16_code 54 = .ok (.bipush (-2), 2) := by decide +kernel
theorem dT_splitEscapeFor_56 : decode prog_5_method_16_code 56 = .ok (.iconst (-1), 1) := by decide +kernel
theorem dT_splitEscapeFor_57 : decode prog_5_method_16_code 57 = .ok (.iconst (-1), 1) := by decide +kernel
theorem dT_splitEscapeFor_58 : decode prog_5_method_16_code 58 = .ok (.invokevirtual 60, 3) := by decide +kernel
theorem dT_splitEscapeFor_61 : decode prog_5_method_16_code 61 = .ok (.aload_n 0, 1) := by decide +kernel
theorem dT_splitEscapeFor_62 : decode prog_5_method_16_code 62 = .ok (.iload_n 2, 1) := by decide +kernel
theorem dT_splitEscapeFor_63 : decode prog_5_method_16_code 63 = .ok (.iconst 0, 1) := by decide +kernel
theorem dT_splitEscapeFor_64 : decode prog_5_method_16_code 64 = .ok (.iconst (-1), 1) := by decide +kernel
theorem dT_splitEscapeFor_65 : decode prog_5_method_16_code 65 = .ok (.iload_n 3, 1) := by decide +kernel
theorem dT_splitEscapeFor_66 : decode prog_5_method_16_code 66 = .ok (.iload_n 3, 1) := by decide +kernel
theorem dT_splitEscapeFor_67 : decode prog_5_method_16_code 67 = .ok (.iconst 1, 1) := by decide +kernel
theorem dT_splitEscapeFor_68 : decode prog_5_method_16_code 68 = .ok (.iadd, 1) := by decide +kernel
theorem dT_splitEscapeFor_69 : decode prog_5_method_16_code 69 = .ok (.invokevirtual 60, 3) := by decide +kernel
theorem dT_splitEscapeFor_72 : decode prog_5_method_16_code 72 = .ok (.return_, 1) := by decide +kernel
def FT_splitEscapeFor (h0 : Hp) (a0 : Nat) (p1 : Int32) : Option Hp :=
  gI h0 a0 3 10 (fun x1 =>
  gI h0 a0 3 9 (fun x2 =>
  gd (isO h0 a0 3 = true) ((FT_hasNode h0 a0 x1).bind (fun r4 =>
  jn (some h0)
  (fun (j5 : Option Hp) =>
  if r4 = 0 then
    (j5)
  else
    (gR h0 a0 3 3 (fun a6 =>
    alen h0 a6 0 (fun x7 =>
    if (x2 + 1) < x7 then
      (gI h0 a0 3 9 (fun x8 =>
      pF h0 a0 3 9 (.int (x8 + 2)) (fun h9 =>
      gd (isO h9 a0 3 = true) ((FT_fill h9 a0 x2 0 p1 (-1) (-1)).bind (fun r11 =>
      gd (isO r11 a0 3 = true) ((FT_fill r11 a0 (x2 + 1) 0 (-2) (-1) (-1)).bind (fun r13 =>
      gd (isO r13 a0 3 = true) ((FT_fill r13 a0 x1 0 (-1) x2 (x2 + 1)).bind (fun r15 =>
      some r15)))))))))
    else
      (j5)))))))))
set_option maxRecDepth 100000 in
set_option maxHeartbeats 4000000 in
theorem mT_splitEscapeFor (l : Launch) (h0 : Hp) (z0 : Nat) (a0 : Nat) (p1 : Int32) (r : Hp) (hr : FT_splitEscapeFor h0 a0 p1 = some r) : vM False l yT_splitEscapeFor (Cond.code yT_splitEscapeFor prog_5_method_16_code 4 none :: gW) 2 [.ref a0, .int p1] h0 z0 r z0 none 0 0 := by
  refine vM.of (by decide) rfl (Nat.le_of_ble_eq_true rfl) ?_
  intro p e s m args below meth c D dA C hin2
  refine (?_ : vO p l e (vR 2 0 0) s m args below meth c D dA (vA h0 z0) 4 False (fun r : Hp => MQ below (vQc False h0 z0 D dA r z0 none) args s 0 0 (vAr False h0 z0)) 0 0 h0 z0 [(0, .ref a0), (1, .int p1)] 0 [] (FT_splitEscapeFor h0 a0 p1)) r hr
  obtain ⟨Q, hQ⟩ : ∃ Q : Hp → State → Prop, Q = (fun r : Hp => MQ below (vQc False h0 z0 D dA r z0 none) args s 0 0 (vAr False h0 z0)) := ⟨_, rfl⟩
  rw [← hQ]
  unfold FT_splitEscapeFor
  refine v_aload_n C dT_splitEscapeFor_0 rfl 0 rfl ?_
  refine v_getI C v_cl3 (by decide) in_3 rfl w_172 dT_splitEscapeFor_1 (fun x1 => ?_)
  refine v_istore_n (lv' := [(0, .ref a0), (1, .int p1), (2, .int x1)]) C dT_splitEscapeFor_4 rfl (by decide) [1, 2, 0] rfl ?_
  refine v_aload_n C dT_splitEscapeFor_5 rfl 0 rfl ?_
  refine v_getI C v_cl3 (by decide) in_3 rfl w_170 dT_splitEscapeFor_6 (fun x2 => ?_)
  refine v_istore_n (lv' := [(0, .ref a0), (1, .int p1), (2, .int x1), (3, .int x2)]) C dT_splitEscapeFor_9 rfl (by decide) [1, 2, 3, 0] rfl ?_
  refine v_aload_n C dT_splitEscapeFor_10 rfl 0 rfl ?_
  refine v_iload_n C dT_splitEscapeFor_11 rfl 2 rfl ?_
  refine v_gd fun hO3 => ?_
  refine v_bind fun r4 hr4 => ?_
  refine v_callV0 (N := 1) (As := [.int x1]) (st := []) C (fun _ => trivial) (mT_hasNode l h0 z0 a0 x1 r4 hr4) rfl w_159 w_52 (by decide +kernel) ⟨Nat.le_of_ble_eq_true rfl, Nat.le_of_ble_eq_true rfl⟩ rfl rfl (Nat.le_of_ble_eq_true rfl) ⟨Nat.zero_le _, Nat.zero_le _⟩ w_156 w_157 w_158 v_cl3 rfl hO3 dT_splitEscapeFor_12 ?_
  refine v_jn (fun (j : Option Hp) => vO p l e (vR 2 0 0) s m args below meth c D dA (vA h0 z0) 4 False Q 0 0 h0 z0 [] 29 [] j) ?_ (fun j5 Hj5 => ?_)
  · exact v_vret C dT_splitEscapeFor_29 (by rw [hQ])
  · refine v_if_eq (tgt := 29) C dT_splitEscapeFor_15 (by decide) ?_ ?_
    · refine v_lv (lv' := []) [] rfl ?_
      exact Hj5
    · refine v_iload_n C dT_splitEscapeFor_18 rfl 3 rfl ?_
      refine v_iconst (v := 1) C dT_splitEscapeFor_19 (by decide) ?_
      refine v_iadd C dT_splitEscapeFor_20 ?_
      refine v_aload_n C dT_splitEscapeFor_21 rfl 0 rfl ?_
      refine v_getR C v_cl3 (by decide) in_3 rfl w_163 dT_splitEscapeFor_22 (fun a6 => ?_)
      refine v_alen C rfl dT_splitEscapeFor_25 (fun x7 => ?_)
      refine v_icmp_lt (tgt := 30) C dT_splitEscapeFor_26 (by decide) ?_ ?_
      · refine v_aload_n C dT_splitEscapeFor_30 rfl 0 rfl ?_
        refine v_dup C dT_splitEscapeFor_31 rfl ?_
        refine v_getI C v_cl3 (by decide) in_3 rfl w_170 dT_splitEscapeFor_32 (fun x8 => ?_)
        refine v_iconst (v := 2) C dT_splitEscapeFor_35 (by decide) ?_
        refine v_iadd C dT_splitEscapeFor_36 ?_
        refine v_put C v_cl3 (by decide) in_3 ty_3 ty_3_ok nm_3 rfl w_170 rfl (ty := .int) (by decide +kernel) rfl rfl dT_splitEscapeFor_37 (fun h9 => ?_)
        refine v_aload_n C dT_splitEscapeFor_40 rfl 0 rfl ?_
        refine v_iload_n C dT_splitEscapeFor_41 rfl 3 rfl ?_
        refine v_iconst (v := 0) C dT_splitEscapeFor_42 (by decide) ?_
        refine v_iload_n C dT_splitEscapeFor_43 rfl 1 rfl ?_
        refine v_iconst (v := (-1)) C dT_splitEscapeFor_44 (by decide) ?_
        refine v_iconst (v := (-1)) C dT_splitEscapeFor_45 (by decide) ?_
        refine v_gd fun hO10 => ?_
        refine v_bind fun r11 hr11 => ?_
        refine v_callV0 (N := 5) (As := [.int x2, .int 0, .int p1, .int (-1), .int (-1)]) (st := []) C (fun f => f.elim) (mT_fill l h9 z0 a0 x2 0 p1 (-1) (-1) r11 hr11) rfl w_155 w_52 (by decide +kernel) ⟨Nat.le_of_ble_eq_true rfl, Nat.le_of_ble_eq_true rfl⟩ rfl rfl (Nat.le_of_ble_eq_true rfl) ⟨Nat.zero_le _, Nat.zero_le _⟩ w_152 w_154 w_1 v_cl3 rfl hO10 dT_splitEscapeFor_46 ?_
        refine v_aload_n C dT_splitEscapeFor_49 rfl 0 rfl ?_
        refine v_iload_n C dT_splitEscapeFor_50 rfl 3 rfl ?_
        refine v_iconst (v := 1) C dT_splitEscapeFor_51 (by decide) ?_
        refine v_iadd C dT_splitEscapeFor_52 ?_
        refine v_iconst (v := 0) C dT_splitEscapeFor_53 (by decide) ?_
        refine v_bipush (v := (-2)) C dT_splitEscapeFor_54 (by decide) ?_
        refine v_iconst (v := (-1)) C dT_splitEscapeFor_56 (by decide) ?_
        refine v_iconst (v := (-1)) C dT_splitEscapeFor_57 (by decide) ?_
        refine v_gd fun hO12 => ?_
        refine v_bind fun r13 hr13 => ?_
        refine v_callV0 (N := 5) (As := [.int (x2 + 1), .int 0, .int (-2), .int (-1), .int (-1)]) (st := []) C (fun f => f.elim) (mT_fill l r11 z0 a0 (x2 + 1) 0 (-2) (-1) (-1) r13 hr13) rfl w_155 w_52 (by decide +kernel) ⟨Nat.le_of_ble_eq_true rfl, Nat.le_of_ble_eq_true rfl⟩ rfl rfl (Nat.le_of_ble_eq_true rfl) ⟨Nat.zero_le _, Nat.zero_le _⟩ w_152 w_154 w_1 v_cl3 rfl hO12 dT_splitEscapeFor_58 ?_
        refine v_aload_n C dT_splitEscapeFor_61 rfl 0 rfl ?_
        refine v_iload_n C dT_splitEscapeFor_62 rfl 2 rfl ?_
        refine v_iconst (v := 0) C dT_splitEscapeFor_63 (by decide) ?_
        refine v_iconst (v := (-1)) C dT_splitEscapeFor_64 (by decide) ?_
        refine v_iload_n C dT_splitEscapeFor_65 rfl 3 rfl ?_
        refine v_iload_n C dT_splitEscapeFor_66 rfl 3 rfl ?_
        refine v_iconst (v := 1) C dT_splitEscapeFor_67 (by decide) ?_
        refine v_iadd C dT_splitEscapeFor_68 ?_
        refine v_gd fun hO14 => ?_
        refine v_bind fun r15 hr15 => ?_
        refine v_callV0 (N := 5) (As := [.int x1, .int 0, .int (-1), .int x2, .int (x2 + 1)]) (st := []) C (fun f => f.elim) (mT_fill l r13 z0 a0 x1 0 (-1) x2 (x2 + 1) r15 hr15) rfl w_155 w_52 (by decide +kernel) ⟨Nat.le_of_ble_eq_true rfl, Nat.le_of_ble_eq_true rfl⟩ rfl rfl (Nat.le_of_ble_eq_true rfl) ⟨Nat.zero_le _, Nat.zero_le _⟩ w_152 w_154 w_1 v_cl3 rfl hO14 dT_splitEscapeFor_69 ?_
        exact v_vret C dT_splitEscapeFor_72 (by rw [hQ])
      · refine v_lv (lv' := []) [] rfl ?_
        exact Hj5
theorem dT_countAt_0 : decode prog_5_method_9_code 0 = .ok (.aload_n 0, 1) := by decide +kernel
theorem dT_countAt_1 : decode prog_5_method_9_code 1 = .ok (.iload_n 1, 1) := by decide +kernel
theorem dT_countAt_2 : decode prog_5_method_9_code 2 = .ok (.invokevirtual 64, 3) := by decide +kernel
theorem dT_countAt_5 : decode prog_5_method_9_code 5 = .ok (.ifCond .eq 12, 3) := by decide +kernel
theorem dT_countAt_8 : decode prog_5_method_9_code 8 = .ok (.aload_n 0, 1) := by decide +kernel
theorem dT_countAt_9 : decode prog_5_method_9_code 9 = .ok (.getfield 35, 3) := by decide +kernel
theorem dT_countAt_12 : decode prog_5_method_9_code 12 = .ok (.iload_n 1, 1) := by decide +kernel
theorem dT_countAt_13 : decode prog_5_method_9_code 13 = .ok (.iaload, 1) := by decide +kernel
theorem dT_countAt_14 : decode prog_5_method_9_code 14 = .ok (.goto 4, 3) := by decide +kernel
theorem dT_countAt_17 : decode prog_5_method_9_code 17 = .ok (.iconst 0, 1) := by decide +kernel
theorem dT_countAt_18 : decode prog_5_method_9_code 18 = .ok (.ireturn, 1) := by decide +kernel
def FT_countAt (h0 : Hp) (a0 : Nat) (p1 : Int32) : Option Int32 :=
  gd (isO h0 a0 3 = true) ((FT_hasNode h0 a0 p1).bind (fun r2 =>
  jn (fun (y3 : Int32) =>
  some y3)
  (fun (j4 : Int32 → Option Int32) =>
  if r2 = 0 then
    (j4 0)
  else
    (gR h0 a0 3 2 (fun a5 =>
    ldI h0 a5 0 p1 (fun x6 =>
    j4 x6))))))
set_option maxRecDepth 100000 in
set_option maxHeartbeats 4000000 in
theorem mT_countAt (l : Launch) (h0 : Hp) (z0 : Nat) (a0 : Nat) (p1 : Int32) (r : Int32) (hr : FT_countAt h0 a0 p1 = some r) : vM True l yT_countAt (Cond.code yT_countAt prog_5_method_9_code 2 (some (.int)) :: gW) 1 [.ref a0, .int p1] h0 z0 h0 z0 (some (.int r)) 0 0 := by
  refine vM.of (by decide) rfl (Nat.le_of_ble_eq_true rfl) ?_
  intro p e s m args below meth c D dA C hin2
  refine (?_ : vO p l e (vR 1 0 0) s m args below meth c D dA (vA h0 z0) 2 True (fun r : Int32 => MQ below (vQc True h0 z0 D dA h0 z0 (some (.int r))) args s 0 0 (vAr True h0 z0)) 0 0 h0 z0 [(0, .ref a0), (1, .int p1)] 0 [] (FT_countAt h0 a0 p1)) r hr
  obtain ⟨Q, hQ⟩ : ∃ Q : Int32 → State → Prop, Q = (fun r : Int32 => MQ below (vQc True h0 z0 D dA h0 z0 (some (.int r))) args s 0 0 (vAr True h0 z0)) := ⟨_, rfl⟩
  rw [← hQ]
  unfold FT_countAt
  refine v_aload_n C dT_countAt_0 rfl 0 rfl ?_
  refine v_iload_n C dT_countAt_1 rfl 1 rfl ?_
  refine v_gd fun hO1 => ?_
  refine v_bind fun r2 hr2 => ?_
  refine v_callV0 (N := 1) (As := [.int p1]) (st := []) C (fun _ => trivial) (mT_hasNode l h0 z0 a0 p1 r2 hr2) rfl w_159 w_52 (by decide +kernel) ⟨Nat.le_of_ble_eq_true rfl, Nat.le_of_ble_eq_true rfl⟩ rfl rfl (Nat.le_of_ble_eq_true rfl) ⟨Nat.zero_le _, Nat.zero_le _⟩ w_156 w_157 w_158 v_cl3 rfl hO1 dT_countAt_2 ?_
  refine v_jn (fun (j : Int32 → Option Int32) => ∀ (y3 : Int32), vO p l e (vR 1 0 0) s m args below meth c D dA (vA h0 z0) 2 True Q 0 0 h0 z0 [] 18 [.int y3] (j y3)) ?_ (fun j4 Hj4 => ?_)
  · intro y3
    exact v_iret C dT_countAt_18 (by rw [hQ])
  · refine v_if_eq (tgt := 17) C dT_countAt_5 (by decide) ?_ ?_
    · refine v_iconst (v := 0) C dT_countAt_17 (by decide) ?_
      refine v_lv (lv' := []) [] rfl ?_
      exact Hj4 0
    · refine v_aload_n C dT_countAt_8 rfl 0 rfl ?_
      refine v_getR C v_cl3 (by decide) in_3 rfl w_162 dT_countAt_9 (fun a5 => ?_)
      refine v_iload_n C dT_countAt_12 rfl 1 rfl ?_
      refine v_iald C rfl dT_countAt_13 (fun x6 => ?_)
      refine v_goto (tgt := 18) C dT_countAt_14 (by decide) ?_
      refine v_lv (lv' := []) [] rfl ?_
      exact Hj4 x6
