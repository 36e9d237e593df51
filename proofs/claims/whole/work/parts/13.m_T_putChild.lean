theorem dT_putChild_0 : decode prog_5_method_19_code 0 = .ok (.aload_n 0, 1) := by decide +kernel
theorem dT_putChild_1 : decode prog_5_method_19_code 1 = .ok (.getfield 45, 3) := by decide +kernel
theorem dT_putChild_4 : decode prog_5_method_19_code 4 = .ok (.iload_n 1, 1) := by decide +kernel
theorem dT_putChild_5 : decode prog_5_method_19_code 5 = .ok (.iaload, 1) := by decide +kernel
theorem dT_putChild_6 : decode prog_5_method_19_code 6 = .ok (.iload_n 2, 1) := by decide +kernel
theorem dT_putChild_7 : decode prog_5_method_19_code 7 = .ok (.if_icmp .ne 13, 3) := by decide +kernel
theorem dT_putChild_10 : decode prog_5_method_19_code 10 = .ok (.aload_n 0, 1) := by decide +kernel
theorem dT_putChild_11 : decode prog_5_method_19_code 11 = .ok (.getfield 45, 3) := by decide +kernel
theorem dT_putChild_14 : decode prog_5_method_19_code 14 = .ok (.iload_n 1, 1) := by decide +kernel
theorem dT_putChild_15 : decode prog_5_method_19_code 15 = .ok (.iload_n 3, 1) := by decide +kernel
theorem dT_putChild_16 : decode prog_5_method_19_code 16 = .ok (.iastore, 1) := by decide +kernel
theorem dT_putChild_17 : decode prog_5_method_19_code 17 = .ok (.goto 10, 3) := by decide +kernel
theorem dT_putChild_20 : decode prog_5_method_19_code 20 = .ok (.aload_n 0, 1) := by decide +kernel
theorem dT_putChild_21 : decode prog_5_method_19_code 21 = .ok (.getfield 48, 3) := by decide +kernel
theorem dT_putChild_24 : decode prog_5_method_19_code 24 = .ok (.iload_n 1, 1) := by decide +kernel
theorem dT_putChild_25 : decode prog_5_method_19_code 25 = .ok (.iload_n 3, 1) := by decide +kernel
theorem dT_putChild_26 : decode prog_5_method_19_code 26 = .ok (.iastore, 1) := by decide +kernel
theorem dT_putChild_27 : decode prog_5_method_19_code 27 = .ok (.aload_n 0, 1) := by decide +kernel
theorem dT_putChild_28 : decode prog_5_method_19_code 28 = .ok (.getfield 42, 3) := by decide +kernel
theorem dT_putChild_31 : decode prog_5_method_19_code 31 = .ok (.iload_n 3, 1) := by decide +kernel
theorem dT_putChild_32 : decode prog_5_method_19_code 32 = .ok (.iload_n 1, 1) := by decide +kernel
theorem dT_putChild_33 : decode prog_5_method_19_code 33 = .ok (.iastore, 1) := by decide +kernel
theorem dT_putChild_34 : decode prog_5_method_19_code 34 = .ok (.return_, 1) := by decide +kernel
def FT_putChild (h0 : Hp) (a0 : Nat) (p1 : Int32) (p2 : Int32) (p3 : Int32) : Option Hp :=
  gR h0 a0 3 5 (fun a1 =>
  ldI h0 a1 0 p1 (fun x2 =>
  jn (fun (h3 : Hp) =>
  gR h3 a0 3 4 (fun a5 =>
  stI h3 a5 0 p3 p1 (fun h6 =>
  some h6)))
  (fun (j4 : Hp → Option Hp) =>
  if x2 = p2 then
    (gR h0 a0 3 5 (fun a9 =>
    stI h0 a9 0 p1 p3 (fun h10 =>
    j4 h10)))
  else
    (gR h0 a0 3 6 (fun a7 =>
    stI h0 a7 0 p1 p3 (fun h8 =>
    j4 h8))))))
set_option maxRecDepth 100000 in
set_option maxHeartbeats 4000000 in
theorem mT_putChild (l : Launch) (h0 : Hp) (z0 : Nat) (a0 : Nat) (p1 : Int32) (p2 : Int32) (p3 : Int32) (r : Hp) (hr : FT_putChild h0 a0 p1 p2 p3 = some r) : vM False l yT_putChild (Cond.code yT_putChild prog_5_method_19_code 4 none :: gW) 0 [.ref a0, .int p1, .int p2, .int p3] h0 z0 r z0 none 0 0 := by
  refine vM.of (by decide) rfl (Nat.le_of_ble_eq_true rfl) ?_
  intro p e s m args below meth c D dA C hin2
  refine (?_ : vO p l e (vR 0 0 0) s m args below meth c D dA (vA h0 z0) 4 False (fun r : Hp => MQ below (vQc False h0 z0 D dA r z0 none) args s 0 0 (vAr False h0 z0)) 0 0 h0 z0 [(0, .ref a0), (1, .int p1), (2, .int p2), (3, .int p3)] 0 [] (FT_putChild h0 a0 p1 p2 p3)) r hr
  obtain ⟨Q, hQ⟩ : ∃ Q : Hp → State → Prop, Q = (fun r : Hp => MQ below (vQc False h0 z0 D dA r z0 none) args s 0 0 (vAr False h0 z0)) := ⟨_, rfl⟩
  rw [← hQ]
  unfold FT_putChild
  refine v_aload_n C dT_putChild_0 rfl 0 rfl ?_
  refine v_getR C v_cl3 (by decide) in_3 rfl w_162 dT_putChild_1 (fun a1 => ?_)
  refine v_iload_n C dT_putChild_4 rfl 1 rfl ?_
  refine v_iald C rfl dT_putChild_5 (fun x2 => ?_)
  refine v_iload_n C dT_putChild_6 rfl 2 rfl ?_
  refine v_jn (fun (j : Hp → Option Hp) => ∀ (h3 : Hp), vO p l e (vR 0 0 0) s m args below meth c D dA (vA h0 z0) 4 False Q 0 0 h3 z0 [(0, .ref a0), (1, .int p1), (3, .int p3)] 27 [] (j h3)) ?_ (fun j4 Hj4 => ?_)
  · intro h3
    refine v_aload_n C dT_putChild_27 rfl 0 rfl ?_
    refine v_getR C v_cl3 (by decide) in_3 rfl w_160 dT_putChild_28 (fun a5 => ?_)
    refine v_iload_n C dT_putChild_31 rfl 2 rfl ?_
    refine v_iload_n C dT_putChild_32 rfl 1 rfl ?_
    refine v_iast C rfl dT_putChild_33 (fun h6 => ?_)
    exact v_vret C dT_putChild_34 (by rw [hQ])
  · refine v_icmp_ne (tgt := 20) C dT_putChild_7 (by decide) ?_ ?_
    · refine v_aload_n C dT_putChild_20 rfl 0 rfl ?_
      refine v_getR C v_cl3 (by decide) in_3 rfl w_164 dT_putChild_21 (fun a7 => ?_)
      refine v_iload_n C dT_putChild_24 rfl 1 rfl ?_
      refine v_iload_n C dT_putChild_25 rfl 3 rfl ?_
      refine v_iast C rfl dT_putChild_26 (fun h8 => ?_)
      refine v_lv (lv' := [(0, .ref a0), (1, .int p1), (3, .int p3)]) [0, 1, 3] rfl ?_
      exact Hj4 h8
    · refine v_aload_n C dT_putChild_10 rfl 0 rfl ?_
      refine v_getR C v_cl3 (by decide) in_3 rfl w_162 dT_putChild_11 (fun a9 => ?_)
      refine v_iload_n C dT_putChild_14 rfl 1 rfl ?_
      refine v_iload_n C dT_putChild_15 rfl 3 rfl ?_
      refine v_iast C rfl dT_putChild_16 (fun h10 => ?_)
      refine v_goto (tgt := 27) C dT_putChild_17 (by decide) ?_
      refine v_lv (lv' := [(0, .ref a0), (1, .int p1), (3, .int p3)]) [0, 1, 3] rfl ?_
      exact Hj4 h10
theorem dT_stepSplayed_0 : decode prog_5_method_18_code 0 = .ok (.aload_n 0, 1) := by decide +kernel
theorem dT_stepSplayed_1 : decode prog_5_method_18_code 1 = .ok (.getfield 51, 3) := by decide +kernel
theorem dT_stepSplayed_4 : decode prog_5_method_18_code 4 = .ok (.iload_n 1, 1) := by decide +kernel
theorem dT_stepSplayed_5 : decode prog_5_method_18_code 5 = .ok (.iaload, 1) := by decide +kernel
theorem dT_stepSplayed_6 : decode prog_5_method_18_code 6 = .ok (.istore_n 2, 1) := by decide +kernel
theorem dT_stepSplayed_7 : decode prog_5_method_18_code 7 = .ok (.iconst 0, 1) := by decide +kernel
theorem dT_stepSplayed_8 : decode prog_5_method_18_code 8 = .ok (.istore_n 3, 1) := by decide +kernel
theorem dT_stepSplayed_9 : decode prog_5_method_18_code 9 = .ok (.iload_n 3, 1) := by decide +kernel
theorem dT_stepSplayed_10 : decode prog_5_method_18_code 10 = .ok (.aload_n 0, 1) := by decide +kernel
theorem dT_stepSplayed_11 : decode prog_5_method_18_code 11 = .ok (.getfield 15, 3) := by decide +kernel
theorem dT_stepSplayed_14 : decode prog_5_method_18_code 14 = .ok (.if_icmp .ge 95, 3) := by decide +kernel
theorem dT_stepSplayed_17 : decode prog_5_method_18_code 17 = .ok (.aload_n 0, 1) := by decide +kernel
theorem dT_stepSplayed_18 : decode prog_5_method_18_code 18 = .ok (.getfield 42, 3) := by decide +kernel
theorem dT_stepSplayed_21 : decode prog_5_method_18_code 21 = .ok (.iload_n 2, 1) := by decide +kernel
theorem dT_stepSplayed_22 : decode prog_5_method_18_code 22 = .ok (.iaload, 1) := by decide +kernel
theorem dT_stepSplayed_23 : decode prog_5_method_18_code 23 = .ok (.istore 4, 2) := by decide +kernel
theorem dT_stepSplayed_25 : decode prog_5_method_18_code 25 = .ok (.iload 4, 2) := by decide +kernel
theorem dT_stepSplayed_27 : decode prog_5_method_18_code 27 = .ok (.iconst (-1), 1) := by decide +kernel
theorem dT_stepSplayed_28 : decode prog_5_method_18_code 28 = .ok (.if_icmp .ne 7, 3) := by decide +kernel
theorem dT_stepSplayed_31 : decode prog_5_method_18_code 31 = .ok (.iconst (-1), 1) := by decide +kernel
theorem dT_stepSplayed_32 : decode prog_5_method_18_code 32 = .ok (.goto 10, 3) := by decide +kernel
theorem dT_stepSplayed_35 : decode prog_5_method_18_code 35 = .ok (.aload_n 0, 1) := by decide +kernel
theorem dT_stepSplayed_36 : decode prog_5_method_18_code 36 = .ok (.getfield 42, 3) := by decide +kernel
theorem dT_stepSplayed_39 : decode prog_5_method_18_code 39 = .ok (.iload 4, 2) := by decide +kernel
theorem dT_stepSplayed_41 : decode prog_5_method_18_code 41 = .ok (.iaload, 1) := by decide +kernel
theorem dT_stepSplayed_42 : decode prog_5_method_18_code 42 = .ok (.istore 5, 2) := by decide +kernel
theorem dT_stepSplayed_44 : decode prog_5_method_18_code 44 = .ok (.iload 5, 2) := by decide +kernel
theorem dT_stepSplayed_46 : decode prog_5_method_18_code 46 = .ok (.iconst (-1), 1) := by decide +kernel
theorem dT_stepSplayed_47 : decode prog_5_method_18_code 47 = .ok (.if_icmp .ne 4, 3) := by decide +kernel
theorem dT_stepSplayed_50 : decode prog_5_method_18_code 50 = .ok (.return_, 1) := by decide +kernel
theorem dT_stepSplayed_51 : decode prog_5_method_18_code 51 = .ok (.aload_n 0, 1) := by decide +kernel
theorem dT_stepSplayed_52 : decode prog_5_method_18_code 52 = .ok (.getfield 45, 3) := by decide +kernel
theorem dT_stepSplayed_55 : decode prog_5_method_18_code 55 = .ok (.iload 5, 2) := by decide +kernel
theorem dT_stepSplayed_57 : decode prog_5_method_18_code 57 = .ok (.iaload, 1) := by decide +kernel
theorem dT_stepSplayed_58 : decode prog_5_method_18_code 58 = .ok (.iload 4, 2) := by decide +kernel
theorem dT_stepSplayed_60 : decode prog_5_method_18_code 60 = .ok (.if_icmp .ne 13, 3) := by decide +kernel
theorem dT_stepSplayed_63 : decode prog_5_method_18_code 63 = .ok (.aload_n 0, 1) := by decide +kernel
theorem dT_stepSplayed_64 : decode prog_5_method_18_code 64 = .ok (.getfield 48, 3) := by decide +kernel
theorem dT_stepSplayed_67 : decode prog_5_method_18_code 67 = .ok (.iload 5, 2) := by decide +kernel
theorem dT_stepSplayed_69 : decode prog_5_method_18_code 69 = .ok (.iaload, 1) := by decide +kernel
theorem dT_stepSplayed_70 : decode prog_5_method_18_code 70 = .ok (.goto 10, 3) := by decide +kernel
theorem dT_stepSplayed_73 : decode prog_5_method_18_code 73 = .ok (.aload_n 0, 1) := by decide +kernel
theorem dT_stepSplayed_74 : decode prog_5_method_18_code 74 = .ok (.getfield 45, 3) := by decide +kernel
theorem dT_stepSplayed_77 : decode prog_5_method_18_code 77 = .ok (.iload 5, 2) := by decide +kernel
theorem dT_stepSplayed_79 : decode prog_5_method_18_code 79 = .ok (.iaload, 1) := by decide +kernel
theorem dT_stepSplayed_80 : decode prog_5_method_18_code 80 = .ok (.istore 6, 2) := by decide +kernel
theorem dT_stepSplayed_82 : decode prog_5_method_18_code 82 = .ok (.aload_n 0, 1) := by decide +kernel
theorem dT_stepSplayed_83 : decode prog_5_method_18_code 83 = .ok (.iload 4, 2) := by decide +kernel
theorem dT_stepSplayed_85 : decode prog_5_method_18_code 85 = .ok (.iload_n 2, 1) := by decide +kernel
theorem dT_stepSplayed_86 : decode prog_5_method_18_code 86 = .ok (.iload 6, 2) := by decide +kernel
theorem dT_stepSplayed_88 : decode prog_5_method_18_code 88 = .ok (.invokevirtual 113, 3) := by decide +kernel
theorem dT_stepSplayed_91 : decode prog_5_method_18_code 91 = .ok (.aload_n 0, 1) := by decide +kernel
theorem dT_stepSplayed_92 : decode prog_5_method_18_code 92 = .ok (.iload 5, 2) := by decide +kernel
theorem dT_stepSplayed_94 : decode prog_5_method_18_code 94 = .ok (.iload 6, 2) := by decide +kernel
theorem dT_stepSplayed_96 : decode prog_5_method_18_code 96 = .ok (.iload_n 2, 1) := by decide +kernel
theorem dT_stepSplayed_97 : decode prog_5_method_18_code 97 = .ok (.invokevirtual 113, 3) := by decide +kernel
theorem dT_stepSplayed_100 : decode prog_5_method_18_code 100 = .ok (.iload 5, 2) := by decide +kernel
theorem dT_stepSplayed_102 : decode prog_5_method_18_code 102 = .ok (.istore_n 2, 1) := by decide +kernel
theorem dT_stepSplayed_103 : decode prog_5_method_18_code 103 = .ok (.iinc 3 1, 3) := by decide +kernel
theorem dT_stepSplayed_106 : decode prog_5_method_18_code 106 = .ok (.goto (-97), 3) := by decide +kernel
theorem dT_stepSplayed_109 : decode prog_5_method_18_code 109 = .ok (.return_, 1) := by decide +kernel
def LT_stepSplayed_9 (a0 : Nat) (K4 : Hp → Option Hp) (K6 : Hp → Option Hp) (rec10 : Hp → Int32 → Int32 → Option Hp) (h7 : Hp) (x8 : Int32) (x9 : Int32) : Option Hp :=
  gI h7 a0 3 9 (fun x11 =>
  if x11 ≤ x9 then
    (K4 h7)
  else
    (gR h7 a0 3 4 (fun a12 =>
    ldI h7 a12 0 x8 (fun x13 =>
    jn (fun (y14 : Int32) =>
    if y14 = (-1) then
      (K6 h7)
    else
      (gR h7 a0 3 5 (fun a16 =>
      ldI h7 a16 0 y14 (fun x17 =>
      jn (fun (y18 : Int32) =>
      gd (isO h7 a0 3 = true) ((FT_putChild h7 a0 x13 x8 y18).bind (fun r21 =>
      gd (isO r21 a0 3 = true) ((FT_putChild r21 a0 y14 y18 x8).bind (fun r23 =>
      rec10 r23 y14 (x9 + 1))))))
      (fun (j19 : Int32 → Option Hp) =>
      if x17 = x13 then
        (gR h7 a0 3 6 (fun a26 =>
        ldI h7 a26 0 y14 (fun x27 =>
        j19 x27)))
      else
        (gR h7 a0 3 5 (fun a24 =>
        ldI h7 a24 0 y14 (fun x25 =>
        j19 x25))))))))
    (fun (j15 : Int32 → Option Hp) =>
    if x13 = (-1) then
      (j15 (-1))
    else
      (gR h7 a0 3 4 (fun a28 =>
      ldI h7 a28 0 x13 (fun x29 =>
      j15 x29))))))))
def FT_stepSplayed (h0 : Hp) (a0 : Nat) (p1 : Int32) : Option Hp :=
  gR h0 a0 3 7 (fun a1 =>
  ldI h0 a1 0 p1 (fun x2 =>
  jn (fun (h3 : Hp) =>
  some h3)
  (fun (K4 : Hp → Option Hp) =>
  jn (fun (h5 : Hp) =>
  some h5)
  (fun (K6 : Hp → Option Hp) =>
  lpG (fun _ _ _ => none) fu (LT_stepSplayed_9 a0 K4 K6) h0 x2 0))))
set_option maxRecDepth 100000 in
set_option maxHeartbeats 4000000 in
theorem mT_stepSplayed (l : Launch) (h0 : Hp) (z0 : Nat) (a0 : Nat) (p1 : Int32) (r : Hp) (hr : FT_stepSplayed h0 a0 p1 = some r) : vM False l yT_stepSplayed (Cond.code yT_stepSplayed prog_5_method_18_code 7 none :: gW) 1 [.ref a0, .int p1] h0 z0 r z0 none 0 0 := by
  refine vM.of (by decide) rfl (Nat.le_of_ble_eq_true rfl) ?_
  intro p e s m args below meth c D dA C hin2
  refine (?_ : vO p l e (vR 1 0 0) s m args below meth c D dA (vA h0 z0) 7 False (fun r : Hp => MQ below (vQc False h0 z0 D dA r z0 none) args s 0 0 (vAr False h0 z0)) 0 0 h0 z0 [(0, .ref a0), (1, .int p1)] 0 [] (FT_stepSplayed h0 a0 p1)) r hr
  obtain ⟨Q, hQ⟩ : ∃ Q : Hp → State → Prop, Q = (fun r : Hp => MQ below (vQc False h0 z0 D dA r z0 none) args s 0 0 (vAr False h0 z0)) := ⟨_, rfl⟩
  rw [← hQ]
  unfold FT_stepSplayed
  refine v_aload_n C dT_stepSplayed_0 rfl 0 rfl ?_
  refine v_getR C v_cl3 (by decide) in_3 rfl w_165 dT_stepSplayed_1 (fun a1 => ?_)
  refine v_iload_n C dT_stepSplayed_4 rfl 1 rfl ?_
  refine v_iald C rfl dT_stepSplayed_5 (fun x2 => ?_)
  refine v_istore_n (lv' := [(0, .ref a0), (2, .int x2)]) C dT_stepSplayed_6 rfl (by decide) [1, 0] rfl ?_
  refine v_iconst (v := 0) C dT_stepSplayed_7 (by decide) ?_
  refine v_istore_n (lv' := [(0, .ref a0), (2, .int x2), (3, .int 0)]) C dT_stepSplayed_8 rfl (by decide) [1, 2, 0] rfl ?_
  refine v_jn (fun (j : Hp → Option Hp) => ∀ (h3 : Hp), vO p l e (vR 1 0 0) s m args below meth c D dA (vA h0 z0) 7 False Q 0 0 h3 z0 [] 109 [] (j h3)) ?_ (fun K4 HK4 => ?_)
  · intro h3
    exact v_vret C dT_stepSplayed_109 (by rw [hQ])
  · refine v_jn (fun (j : Hp → Option Hp) => ∀ (h5 : Hp), vO p l e (vR 1 0 0) s m args below meth c D dA (vA h0 z0) 7 False Q 0 0 h5 z0 [] 50 [] (j h5)) ?_ (fun K6 HK6 => ?_)
    · intro h5
      exact v_vret C dT_stepSplayed_50 (by rw [hQ])
    · refine lpG_ind (bot := (fun _ _ _ => none)) (B := LT_stepSplayed_9 a0 K4 K6) (fun (r : Hp → Int32 → Int32 → Option Hp) => ∀ (h7 : Hp), ∀ (x8 : Int32), ∀ (x9 : Int32), vO p l e (vR 1 0 0) s m args below meth c D dA (vA h0 z0) 7 False Q 0 0 h7 z0 [(0, .ref a0), (2, .int x8), (3, .int x9)] 9 [] (r h7 x8 x9)) ?_ ?_ fu h0 x2 0
      · intro h7 x8 x9
        exact v_none
      · intro rec10 Hrec10 h7 x8 x9
        unfold LT_stepSplayed_9
        refine v_iload_n C dT_stepSplayed_9 rfl 2 rfl ?_
        refine v_aload_n C dT_stepSplayed_10 rfl 0 rfl ?_
        refine v_getI C v_cl3 (by decide) in_3 rfl w_169 dT_stepSplayed_11 (fun x11 => ?_)
        refine v_icmp_ge (tgt := 109) C dT_stepSplayed_14 (by decide) ?_ ?_
        · refine v_lv (lv' := []) [] rfl ?_
          exact HK4 h7
        · refine v_aload_n C dT_stepSplayed_17 rfl 0 rfl ?_
          refine v_getR C v_cl3 (by decide) in_3 rfl w_160 dT_stepSplayed_18 (fun a12 => ?_)
          refine v_iload_n C dT_stepSplayed_21 rfl 1 rfl ?_
          refine v_iald C rfl dT_stepSplayed_22 (fun x13 => ?_)
          refine v_istore (lv' := [(0, .ref a0), (2, .int x8), (3, .int x9), (4, .int x13)]) C dT_stepSplayed_23 (by decide) [1, 2, 3, 0] rfl ?_
          refine v_iload C dT_stepSplayed_25 3 rfl ?_
          refine v_iconst (v := (-1)) C dT_stepSplayed_27 (by decide) ?_
          refine v_jn (fun (j : Int32 → Option Hp) => ∀ (y14 : Int32), vO p l e (vR 1 0 0) s m args below meth c D dA (vA h0 z0) 7 False Q 0 0 h7 z0 [(0, .ref a0), (2, .int x8), (3, .int x9), (4, .int x13)] 42 [.int y14] (j y14)) ?_ (fun j15 Hj15 => ?_)
          · intro y14
            refine v_istore (lv' := [(0, .ref a0), (2, .int x8), (3, .int x9), (4, .int x13), (5, .int y14)]) C dT_stepSplayed_42 (by decide) [1, 2, 3, 4, 0] rfl ?_
            refine v_iload C dT_stepSplayed_44 4 rfl ?_
            refine v_iconst (v := (-1)) C dT_stepSplayed_46 (by decide) ?_
            refine v_icmp_ne (tgt := 51) C dT_stepSplayed_47 (by decide) ?_ ?_
            · refine v_aload_n C dT_stepSplayed_51 rfl 0 rfl ?_
              refine v_getR C v_cl3 (by decide) in_3 rfl w_162 dT_stepSplayed_52 (fun a16 => ?_)
              refine v_iload C dT_stepSplayed_55 4 rfl ?_
              refine v_iald C rfl dT_stepSplayed_57 (fun x17 => ?_)
              refine v_iload C dT_stepSplayed_58 3 rfl ?_
              refine v_jn (fun (j : Int32 → Option Hp) => ∀ (y18 : Int32), vO p l e (vR 1 0 0) s m args below meth c D dA (vA h0 z0) 7 False Q 0 0 h7 z0 [(0, .ref a0), (2, .int x8), (3, .int x9), (4, .int x13), (5, .int y14)] 80 [.int y18] (j y18)) ?_ (fun j19 Hj19 => ?_)
              · intro y18
                refine v_istore (lv' := [(0, .ref a0), (2, .int x8), (3, .int x9), (4, .int x13), (5, .int y14), (6, .int y18)]) C dT_stepSplayed_80 (by decide) [1, 2, 3, 4, 5, 0] rfl ?_
                refine v_aload_n C dT_stepSplayed_82 rfl 0 rfl ?_
                refine v_iload C dT_stepSplayed_83 3 rfl ?_
                refine v_iload_n C dT_stepSplayed_85 rfl 1 rfl ?_
                refine v_iload C dT_stepSplayed_86 5 rfl ?_
                refine v_gd fun hO20 => ?_
                refine v_bind fun r21 hr21 => ?_
                refine v_callV0 (N := 3) (As := [.int x13, .int x8, .int y18]) (st := []) C (fun f => f.elim) (mT_putChild l h7 z0 a0 x13 x8 y18 r21 hr21) rfl w_313 w_50 (by decide +kernel) ⟨Nat.le_of_ble_eq_true rfl, Nat.le_of_ble_eq_true rfl⟩ rfl rfl (Nat.le_of_ble_eq_true rfl) ⟨Nat.zero_le _, Nat.zero_le _⟩ w_310 w_312 w_6 v_cl3 rfl hO20 dT_stepSplayed_88 ?_
                refine v_aload_n C dT_stepSplayed_91 rfl 0 rfl ?_
                refine v_iload C dT_stepSplayed_92 4 rfl ?_
                refine v_iload C dT_stepSplayed_94 5 rfl ?_
                refine v_iload_n C dT_stepSplayed_96 rfl 1 rfl ?_
                refine v_gd fun hO22 => ?_
                refine v_bind fun r23 hr23 => ?_
                refine v_callV0 (N := 3) (As := [.int y14, .int y18, .int x8]) (st := []) C (fun f => f.elim) (mT_putChild l r21 z0 a0 y14 y18 x8 r23 hr23) rfl w_313 w_50 (by decide +kernel) ⟨Nat.le_of_ble_eq_true rfl, Nat.le_of_ble_eq_true rfl⟩ rfl rfl (Nat.le_of_ble_eq_true rfl) ⟨Nat.zero_le _, Nat.zero_le _⟩ w_310 w_312 w_6 v_cl3 rfl hO22 dT_stepSplayed_97 ?_
                refine v_iload C dT_stepSplayed_100 4 rfl ?_
                refine v_istore_n (lv' := [(0, .ref a0), (2, .int y14), (3, .int x9)]) C dT_stepSplayed_102 rfl (by decide) [1, 0, 2] rfl ?_
                refine v_iinc (v := (x9 + 1)) (lv' := [(0, .ref a0), (2, .int y14), (3, .int (x9 + 1))]) C dT_stepSplayed_103 2 rfl rfl (by decide) [1, 2, 0] rfl ?_
                refine v_goto (tgt := 9) C dT_stepSplayed_106 (by decide) ?_
                exact Hrec10 r23 y14 (x9 + 1)
              · refine v_icmp_ne (tgt := 73) C dT_stepSplayed_60 (by decide) ?_ ?_
                · refine v_aload_n C dT_stepSplayed_73 rfl 0 rfl ?_
                  refine v_getR C v_cl3 (by decide) in_3 rfl w_162 dT_stepSplayed_74 (fun a24 => ?_)
                  refine v_iload C dT_stepSplayed_77 4 rfl ?_
                  refine v_iald C rfl dT_stepSplayed_79 (fun x25 => ?_)
                  exact Hj19 x25
                · refine v_aload_n C dT_stepSplayed_63 rfl 0 rfl ?_
                  refine v_getR C v_cl3 (by decide) in_3 rfl w_164 dT_stepSplayed_64 (fun a26 => ?_)
                  refine v_iload C dT_stepSplayed_67 4 rfl ?_
                  refine v_iald C rfl dT_stepSplayed_69 (fun x27 => ?_)
                  refine v_goto (tgt := 80) C dT_stepSplayed_70 (by decide) ?_
                  exact Hj19 x27
            · refine v_lv (lv' := []) [] rfl ?_
              exact HK6 h7
          · refine v_icmp_ne (tgt := 35) C dT_stepSplayed_28 (by decide) ?_ ?_
            · refine v_aload_n C dT_stepSplayed_35 rfl 0 rfl ?_
              refine v_getR C v_cl3 (by decide) in_3 rfl w_160 dT_stepSplayed_36 (fun a28 => ?_)
              refine v_iload C dT_stepSplayed_39 3 rfl ?_
              refine v_iald C rfl dT_stepSplayed_41 (fun x29 => ?_)
              exact Hj15 x29
            · refine v_iconst (v := (-1)) C dT_stepSplayed_31 (by decide) ?_
              refine v_goto (tgt := 42) C dT_stepSplayed_32 (by decide) ?_
              exact Hj15 (-1)
theorem dT_splitEscapeFor_0 : decode prog_5_method_11_code 0 = .ok (.aload_n 0, 1) := by decide +kernel
theorem dT_splitEscapeFor_1 : decode prog_5_method_11_code 1 = .ok (.getfield 18, 3) := by decide +kernel
theorem dT_splitEscapeFor_4 : decode prog_5_method_11_code 4 = .ok (.istore_n 2, 1) := by decide +kernel
theorem dT_splitEscapeFor_5 : decode prog_5_method_11_code 5 = .ok (.aload_n 0, 1) := by decide +kernel
theorem dT_splitEscapeFor_6 : decode prog_5_method_11_code 6 = .ok (.getfield 15, 3) := by decide +kernel
theorem dT_splitEscapeFor_9 : decode prog_5_method_11_code 9 = .ok (.istore_n 3, 1) := by decide +kernel
theorem dT_splitEscapeFor_10 : decode prog_5_method_11_code 10 = .ok (.iload_n 2, 1) := by decide +kernel
theorem dT_splitEscapeFor_11 : decode prog_5_method_11_code 11 = .ok (.iconst (-1), 1) := by decide +kernel
theorem dT_splitEscapeFor_12 : decode prog_5_method_11_code 12 = .ok (.if_icmp .eq 14, 3) := by decide +kernel
theorem dT_splitEscapeFor_15 : decode prog_5_method_11_code 15 = .ok (.iload_n 3, 1) := by decide +kernel
theorem dT_splitEscapeFor_16 : decode prog_5_method_11_code 16 = .ok (.iconst 1, 1) := by decide +kernel
theorem dT_splitEscapeFor_17 : decode prog_5_method_11_code 17 = .ok (.iadd, 1) := by decide +kernel
theorem dT_splitEscapeFor_18 : decode prog_5_method_11_code 18 = .ok (.aload_n 0, 1) := by decide +kernel
theorem dT_splitEscapeFor_19 : decode prog_5_method_11_code 19 = .ok (.getfield 39, 3) := by decide +kernel
theorem dT_splitEscapeFor_22 : decode prog_5_method_11_code 22 = .ok (.arraylength, 1) := by decide +kernel
theorem dT_splitEscapeFor_23 : decode prog_5_method_11_code 23 = .ok (.if_icmp .lt 4, 3) := by decide +kernel
theorem dT_splitEscapeFor_26 : decode prog_5_method_11_code 26 = .ok (.return_, 1) := by decide +kernel
theorem dT_splitEscapeFor_27 : decode prog_5_method_11_code 27 = .ok (.aload_n 0, 1) := by decide +kernel
theorem dT_splitEscapeFor_28 : decode prog_5_method_11_code 28 = .ok (.dup, 1) := by decide +kernel
theorem dT_splitEscapeFor_29 : decode prog_5_method_11_code 29 = .ok (.getfield 15, 3) := by decide +kernel
theorem dT_splitEscapeFor_32 : decode prog_5_method_11_code 32 = .ok (.iconst 2, 1) := by decide +kernel
theorem dT_splitEscapeFor_33 : decode prog_5_method_11_code 33 = .ok (.iadd, 1) := by decide +kernel
theorem dT_splitEscapeFor_34 : decode prog_5_method_11_code 34 = .ok (.putfield 15, 3) := by decide +kernel
theorem dT_splitEscapeFor_37 : decode prog_5_method_11_code 37 = .ok (.aload_n 0, 1) := by decide +kernel
theorem dT_splitEscapeFor_38 : decode prog_5_method_11_code 38 = .ok (.iload_n 3, 1) := by decide +kernel
theorem dT_splitEscapeFor_39 : decode prog_5_method_11_code 39 = .ok (.iconst 0, 1) := by decide +kernel
theorem dT_splitEscapeFor_40 : decode prog_5_method_11_code 40 = .ok (.iload_n 1, 1) := by decide +kernel
theorem dT_splitEscapeFor_41 : decode prog_5_method_11_code 41 = .ok (.iconst (-1), 1) := by decide +kernel
theorem dT_splitEscapeFor_42 : decode prog_5_method_11_code 42 = .ok (.iconst (-1), 1) := by decide +kernel
theorem dT_splitEscapeFor_43 : decode prog_5_method_11_code 43 = .ok (.invokevirtual 60, 3) := by decide +kernel
theorem dT_splitEscapeFor_46 : decode prog_5_method_11_code 46 = .ok (.aload_n 0, 1) := by decide +kernel
theorem dT_splitEscapeFor_47 : decode prog_5_method_11_code 47 = .ok (.iload_n 3, 1) := by decide +kernel
theorem dT_splitEscapeFor_48 : decode prog_5_method_11_code 48 = .ok (.iconst 1, 1) := by decide +kernel
theorem dT_splitEscapeFor_49 : decode prog_5_method_11_code 49 = .ok (.iadd, 1) := by decide +kernel
theorem dT_splitEscapeFor_50 : decode prog_5_method_11_code 50 = .ok (.iconst 0, 1) := by decide +kernel
theorem dT_splitEscapeFor_51 : decode prog_5_method_11_code 51 = .ok (.bipush (-2), 2) := by decide +kernel
theorem dT_splitEscapeFor_53 : decode prog_5_method_11_code 53 = .ok (.iconst (-1), 1) := by decide +kernel
theorem dT_splitEscapeFor_54 : decode prog_5_method_11_code 54 = .ok (.iconst (-1), 1) := by decide +kernel
theorem dT_splitEscapeFor_55 : decode prog_5_method_11_code 55 = .ok (.invokevirtual 60, 3) := by decide +kernel
theorem dT_splitEscapeFor_58 : decode prog_5_method_11_code 58 = .ok (.aload_n 0, 1) := by decide +kernel
theorem dT_splitEscapeFor_59 : decode prog_5_method_11_code 59 = .ok (.iload_n 2, 1) := by decide +kernel
theorem dT_splitEscapeFor_60 : decode prog_5_method_11_code 60 = .ok (.iconst 0, 1) := by decide +kernel
theorem dT_splitEscapeFor_61 : decode prog_5_method_11_code 61 = .ok (.iconst (-1), 1) := by decide +kernel
theorem dT_splitEscapeFor_62 : decode prog_5_method_11_code 62 = .ok (.iload_n 3, 1) := by decide +kernel
theorem dT_splitEscapeFor_63 : decode prog_5_method_11_code 63 = .ok (.iload_n 3, 1) := by decide +kernel
theorem dT_splitEscapeFor_64 : decode prog_5_method_11_code 64 = .ok (.iconst 1, 1) := by decide +kernel
theorem dT_splitEscapeFor_65 : decode prog_5_method_11_code 65 = .ok (.iadd, 1) := by decide +kernel
theorem dT_splitEscapeFor_66 : decode prog_5_method_11_code 66 = .ok (.invokevirtual 60, 3) := by decide +kernel
theorem dT_splitEscapeFor_69 : decode prog_5_method_11_code 69 = .ok (.return_, 1) := by decide +kernel
def FT_splitEscapeFor (h0 : Hp) (a0 : Nat) (p1 : Int32) : Option Hp :=
  gI h0 a0 3 10 (fun x1 =>
  gI h0 a0 3 9 (fun x2 =>
  jn (some h0)
  (fun (j3 : Option Hp) =>
  if x1 = (-1) then
    (j3)
  else
    (gR h0 a0 3 3 (fun a4 =>
    alen h0 a4 0 (fun x5 =>
    if (x2 + 1) < x5 then
      (gI h0 a0 3 9 (fun x6 =>
      pF h0 a0 3 9 (.int (x6 + 2)) (fun h7 =>
      gd (isO h7 a0 3 = true) ((FT_fill h7 a0 x2 0 p1 (-1) (-1)).bind (fun r9 =>
      gd (isO r9 a0 3 = true) ((FT_fill r9 a0 (x2 + 1) 0 (-2) (-1) (-1)).bind (fun r11 =>
      gd (isO r11 a0 3 = true) ((FT_fill r11 a0 x1 0 (-1) x2 (x2 + 1)).bind (fun r13 =>
      some r13)))))))))
    else
      (j3)))))))
set_option maxRecDepth 100000 in
set_option maxHeartbeats 4000000 in
theorem mT_splitEscapeFor (l : Launch) (h0 : Hp) (z0 : Nat) (a0 : Nat) (p1 : Int32) (r : Hp) (hr : FT_splitEscapeFor h0 a0 p1 = some r) : vM False l yT_splitEscapeFor (Cond.code yT_splitEscapeFor prog_5_method_11_code 4 none :: gW) 1 [.ref a0, .int p1] h0 z0 r z0 none 0 0 := by
  refine vM.of (by decide) rfl (Nat.le_of_ble_eq_true rfl) ?_
  intro p e s m args below meth c D dA C hin2
  refine (?_ : vO p l e (vR 1 0 0) s m args below meth c D dA (vA h0 z0) 4 False (fun r : Hp => MQ below (vQc False h0 z0 D dA r z0 none) args s 0 0 (vAr False h0 z0)) 0 0 h0 z0 [(0, .ref a0), (1, .int p1)] 0 [] (FT_splitEscapeFor h0 a0 p1)) r hr
  obtain ⟨Q, hQ⟩ : ∃ Q : Hp → State → Prop, Q = (fun r : Hp => MQ below (vQc False h0 z0 D dA r z0 none) args s 0 0 (vAr False h0 z0)) := ⟨_, rfl⟩
  rw [← hQ]
  unfold FT_splitEscapeFor
  refine v_aload_n C dT_splitEscapeFor_0 rfl 0 rfl ?_
  refine v_getI C v_cl3 (by decide) in_3 rfl w_171 dT_splitEscapeFor_1 (fun x1 => ?_)
  refine v_istore_n (lv' := [(0, .ref a0), (1, .int p1), (2, .int x1)]) C dT_splitEscapeFor_4 rfl (by decide) [1, 2, 0] rfl ?_
  refine v_aload_n C dT_splitEscapeFor_5 rfl 0 rfl ?_
  refine v_getI C v_cl3 (by decide) in_3 rfl w_169 dT_splitEscapeFor_6 (fun x2 => ?_)
  refine v_istore_n (lv' := [(0, .ref a0), (1, .int p1), (2, .int x1), (3, .int x2)]) C dT_splitEscapeFor_9 rfl (by decide) [1, 2, 3, 0] rfl ?_
  refine v_iload_n C dT_splitEscapeFor_10 rfl 2 rfl ?_
  refine v_iconst (v := (-1)) C dT_splitEscapeFor_11 (by decide) ?_
  refine v_jn (fun (j : Option Hp) => vO p l e (vR 1 0 0) s m args below meth c D dA (vA h0 z0) 4 False Q 0 0 h0 z0 [] 26 [] j) ?_ (fun j3 Hj3 => ?_)
  · exact v_vret C dT_splitEscapeFor_26 (by rw [hQ])
  · refine v_icmp_eq (tgt := 26) C dT_splitEscapeFor_12 (by decide) ?_ ?_
    · refine v_lv (lv' := []) [] rfl ?_
      exact Hj3
    · refine v_iload_n C dT_splitEscapeFor_15 rfl 3 rfl ?_
      refine v_iconst (v := 1) C dT_splitEscapeFor_16 (by decide) ?_
      refine v_iadd C dT_splitEscapeFor_17 ?_
      refine v_aload_n C dT_splitEscapeFor_18 rfl 0 rfl ?_
      refine v_getR C v_cl3 (by decide) in_3 rfl w_158 dT_splitEscapeFor_19 (fun a4 => ?_)
      refine v_alen C rfl dT_splitEscapeFor_22 (fun x5 => ?_)
      refine v_icmp_lt (tgt := 27) C dT_splitEscapeFor_23 (by decide) ?_ ?_
      · refine v_aload_n C dT_splitEscapeFor_27 rfl 0 rfl ?_
        refine v_dup C dT_splitEscapeFor_28 rfl ?_
        refine v_getI C v_cl3 (by decide) in_3 rfl w_169 dT_splitEscapeFor_29 (fun x6 => ?_)
        refine v_iconst (v := 2) C dT_splitEscapeFor_32 (by decide) ?_
        refine v_iadd C dT_splitEscapeFor_33 ?_
        refine v_put C v_cl3 (by decide) in_3 ty_3 ty_3_ok nm_3 rfl w_169 rfl (ty := .int) (by decide +kernel) rfl rfl dT_splitEscapeFor_34 (fun h7 => ?_)
        refine v_aload_n C dT_splitEscapeFor_37 rfl 0 rfl ?_
        refine v_iload_n C dT_splitEscapeFor_38 rfl 3 rfl ?_
        refine v_iconst (v := 0) C dT_splitEscapeFor_39 (by decide) ?_
        refine v_iload_n C dT_splitEscapeFor_40 rfl 1 rfl ?_
        refine v_iconst (v := (-1)) C dT_splitEscapeFor_41 (by decide) ?_
        refine v_iconst (v := (-1)) C dT_splitEscapeFor_42 (by decide) ?_
        refine v_gd fun hO8 => ?_
        refine v_bind fun r9 hr9 => ?_
        refine v_callV0 (N := 5) (As := [.int x2, .int 0, .int p1, .int (-1), .int (-1)]) (st := []) C (fun f => f.elim) (mT_fill l h7 z0 a0 x2 0 p1 (-1) (-1) r9 hr9) rfl w_153 w_50 (by decide +kernel) ⟨Nat.le_of_ble_eq_true rfl, Nat.le_of_ble_eq_true rfl⟩ rfl rfl (Nat.le_of_ble_eq_true rfl) ⟨Nat.zero_le _, Nat.zero_le _⟩ w_150 w_152 w_1 v_cl3 rfl hO8 dT_splitEscapeFor_43 ?_
        refine v_aload_n C dT_splitEscapeFor_46 rfl 0 rfl ?_
        refine v_iload_n C dT_splitEscapeFor_47 rfl 3 rfl ?_
        refine v_iconst (v := 1) C dT_splitEscapeFor_48 (by decide) ?_
        refine v_iadd C dT_splitEscapeFor_49 ?_
        refine v_iconst (v := 0) C dT_splitEscapeFor_50 (by decide) ?_
        refine v_bipush (v := (-2)) C dT_splitEscapeFor_51 (by decide) ?_
        refine v_iconst (v := (-1)) C dT_splitEscapeFor_53 (by decide) ?_
        refine v_iconst (v := (-1)) C dT_splitEscapeFor_54 (by decide) ?_
        refine v_gd fun hO10 => ?_
        refine v_bind fun r11 hr11 => ?_
        refine v_callV0 (N := 5) (As := [.int (x2 + 1), .int 0, .int (-2), .int (-1), .int (-1)]) (st := []) C (fun f => f.elim) (mT_fill l r9 z0 a0 (x2 + 1) 0 (-2) (-1) (-1) r11 hr11) rfl w_153 w_50 (by decide +kernel) ⟨Nat.le_of_ble_eq_true rfl, Nat.le_of_ble_eq_true rfl⟩ rfl rfl (Nat.le_of_ble_eq_true rfl) ⟨Nat.zero_le _, Nat.zero_le _⟩ w_150 w_152 w_1 v_cl3 rfl hO10 dT_splitEscapeFor_55 ?_
        refine v_aload_n C dT_splitEscapeFor_58 rfl 0 rfl ?_
        refine v_iload_n C dT_splitEscapeFor_59 rfl 2 rfl ?_
        refine v_iconst (v := 0) C dT_splitEscapeFor_60 (by decide) ?_
        refine v_iconst (v := (-1)) C dT_splitEscapeFor_61 (by decide) ?_
        refine v_iload_n C dT_splitEscapeFor_62 rfl 3 rfl ?_
        refine v_iload_n C dT_splitEscapeFor_63 rfl 3 rfl ?_
        refine v_iconst (v := 1) C dT_splitEscapeFor_64 (by decide) ?_
        refine v_iadd C dT_splitEscapeFor_65 ?_
        refine v_gd fun hO12 => ?_
        refine v_bind fun r13 hr13 => ?_
        refine v_callV0 (N := 5) (As := [.int x1, .int 0, .int (-1), .int x2, .int (x2 + 1)]) (st := []) C (fun f => f.elim) (mT_fill l r11 z0 a0 x1 0 (-1) x2 (x2 + 1) r13 hr13) rfl w_153 w_50 (by decide +kernel) ⟨Nat.le_of_ble_eq_true rfl, Nat.le_of_ble_eq_true rfl⟩ rfl rfl (Nat.le_of_ble_eq_true rfl) ⟨Nat.zero_le _, Nat.zero_le _⟩ w_150 w_152 w_1 v_cl3 rfl hO12 dT_splitEscapeFor_66 ?_
        exact v_vret C dT_splitEscapeFor_69 (by rw [hQ])
      · refine v_lv (lv' := []) [] rfl ?_
        exact Hj3
theorem dT_leastPlaceToChange_0 : decode prog_5_method_13_code 0 = .ok (.iconst 0, 1) := by decide +kernel
theorem dT_leastPlaceToChange_1 : decode prog_5_method_13_code 1 = .ok (.istore_n 2, 1) := by decide +kernel
theorem dT_leastPlaceToChange_2 : decode prog_5_method_13_code 2 = .ok (.iload_n 2, 1) := by decide +kernel
theorem dT_leastPlaceToChange_3 : decode prog_5_method_13_code 3 = .ok (.iload_n 1, 1) := by decide +kernel
theorem dT_leastPlaceToChange_4 : decode prog_5_method_13_code 4 = .ok (.if_icmp .ge 36, 3) := by decide +kernel
theorem dT_leastPlaceToChange_7 : decode prog_5_method_13_code 7 = .ok (.aload_n 0, 1) := by decide +kernel
theorem dT_leastPlaceToChange_8 : decode prog_5_method_13_code 8 = .ok (.getfield 35, 3) := by decide +kernel
theorem dT_leastPlaceToChange_11 : decode prog_5_method_13_code 11 = .ok (.iload_n 2, 1) := by decide +kernel
theorem dT_leastPlaceToChange_12 : decode prog_5_method_13_code 12 = .ok (.iaload, 1) := by decide +kernel
theorem dT_leastPlaceToChange_13 : decode prog_5_method_13_code 13 = .ok (.aload_n 0, 1) := by decide +kernel
theorem dT_leastPlaceToChange_14 : decode prog_5_method_13_code 14 = .ok (.getfield 35, 3) := by decide +kernel
theorem dT_leastPlaceToChange_17 : decode prog_5_method_13_code 17 = .ok (.iload_n 1, 1) := by decide +kernel
theorem dT_leastPlaceToChange_18 : decode prog_5_method_13_code 18 = .ok (.iaload, 1) := by decide +kernel
theorem dT_leastPlaceToChange_19 : decode prog_5_method_13_code 19 = .ok (.if_icmp .ne 15, 3) := by decide +kernel
theorem dT_leastPlaceToChange_22 : decode prog_5_method_13_code 22 = .ok (.iload_n 2, 1) := by decide +kernel
theorem dT_leastPlaceToChange_23 : decode prog_5_method_13_code 23 = .ok (.aload_n 0, 1) := by decide +kernel
theorem dT_leastPlaceToChange_24 : decode prog_5_method_13_code 24 = .ok (.getfield 42, 3) := by decide +kernel
theorem dT_leastPlaceToChange_27 : decode prog_5_method_13_code 27 = .ok (.iload_n 1, 1) := by decide +kernel
theorem dT_leastPlaceToChange_28 : decode prog_5_method_13_code 28 = .ok (.iaload, 1) := by decide +kernel
theorem dT_leastPlaceToChange_29 : decode prog_5_method_13_code 29 = .ok (.if_icmp .eq 5, 3) := by decide +kernel
theorem dT_leastPlaceToChange_32 : decode prog_5_method_13_code 32 = .ok (.iload_n 2, 1) := by decide +kernel
theorem dT_leastPlaceToChange_33 : decode prog_5_method_13_code 33 = .ok (.ireturn, 1) := by decide +kernel
theorem dT_leastPlaceToChange_34 : decode prog_5_method_13_code 34 = .ok (.iinc 2 1, 3) := by decide +kernel
theorem dT_leastPlaceToChange_37 : decode prog_5_method_13_code 37 = .ok (.goto (-35), 3) := by decide +kernel
theorem dT_leastPlaceToChange_40 : decode prog_5_method_13_code 40 = .ok (.iload_n 1, 1) := by decide +kernel
theorem dT_leastPlaceToChange_41 : decode prog_5_method_13_code 41 = .ok (.ireturn, 1) := by decide +kernel
def LT_leastPlaceToChange_2 (h0 : Hp) (a0 : Nat) (p1 : Int32) (K1 : Option Int32) (K3 : Int32 → Option Int32) (rec5 : Int32 → Option Int32) (x4 : Int32) : Option Int32 :=
  if p1 ≤ x4 then
    (K1)
  else
    (gR h0 a0 3 2 (fun a6 =>
    ldI h0 a6 0 x4 (fun x7 =>
    gR h0 a0 3 2 (fun a8 =>
    ldI h0 a8 0 p1 (fun x9 =>
    jn (rec5 (x4 + 1))
    (fun (j10 : Option Int32) =>
    if x7 = x9 then
      (gR h0 a0 3 4 (fun a11 =>
      ldI h0 a11 0 p1 (fun x12 =>
      if x4 = x12 then
        (j10)
      else
        (K3 x4))))
    else
      (j10)))))))
def FT_leastPlaceToChange (h0 : Hp) (a0 : Nat) (p1 : Int32) : Option Int32 :=
  jn (some p1)
  (fun (K1 : Option Int32) =>
  jn (fun (x2 : Int32) =>
  some x2)
  (fun (K3 : Int32 → Option Int32) =>
  lpG (fun _ => none) fu (LT_leastPlaceToChange_2 h0 a0 p1 K1 K3) 0))
set_option maxRecDepth 100000 in
set_option maxHeartbeats 4000000 in
theorem mT_leastPlaceToChange (l : Launch) (h0 : Hp) (z0 : Nat) (a0 : Nat) (p1 : Int32) (r : Int32) (hr : FT_leastPlaceToChange h0 a0 p1 = some r) : vM True l yT_leastPlaceToChange (Cond.code yT_leastPlaceToChange prog_5_method_13_code 3 (some (.int)) :: gW) 0 [.ref a0, .int p1] h0 z0 h0 z0 (some (.int r)) 0 0 := by
  refine vM.of (by decide) rfl (Nat.le_of_ble_eq_true rfl) ?_
  intro p e s m args below meth c D dA C hin2
  refine (?_ : vO p l e (vR 0 0 0) s m args below meth c D dA (vA h0 z0) 3 True (fun r : Int32 => MQ below (vQc True h0 z0 D dA h0 z0 (some (.int r))) args s 0 0 (vAr True h0 z0)) 0 0 h0 z0 [(0, .ref a0), (1, .int p1)] 0 [] (FT_leastPlaceToChange h0 a0 p1)) r hr
  obtain ⟨Q, hQ⟩ : ∃ Q : Int32 → State → Prop, Q = (fun r : Int32 => MQ below (vQc True h0 z0 D dA h0 z0 (some (.int r))) args s 0 0 (vAr True h0 z0)) := ⟨_, rfl⟩
  rw [← hQ]
  unfold FT_leastPlaceToChange
  refine v_iconst (v := 0) C dT_leastPlaceToChange_0 (by decide) ?_
  refine v_istore_n (lv' := [(0, .ref a0), (1, .int p1), (2, .int 0)]) C dT_leastPlaceToChange_1 rfl (by decide) [1, 2, 0] rfl ?_
  refine v_jn (fun (j : Option Int32) => vO p l e (vR 0 0 0) s m args below meth c D dA (vA h0 z0) 3 True Q 0 0 h0 z0 [(1, .int p1)] 40 [] j) ?_ (fun K1 HK1 => ?_)
  · refine v_iload_n C dT_leastPlaceToChange_40 rfl 0 rfl ?_
    exact v_iret C dT_leastPlaceToChange_41 (by rw [hQ])
  · refine v_jn (fun (j : Int32 → Option Int32) => ∀ (x2 : Int32), vO p l e (vR 0 0 0) s m args below meth c D dA (vA h0 z0) 3 True Q 0 0 h0 z0 [(2, .int x2)] 32 [] (j x2)) ?_ (fun K3 HK3 => ?_)
    · intro x2
      refine v_iload_n C dT_leastPlaceToChange_32 rfl 0 rfl ?_
      exact v_iret C dT_leastPlaceToChange_33 (by rw [hQ])
    · refine lpG_ind (bot := (fun _ => none)) (B := LT_leastPlaceToChange_2 h0 a0 p1 K1 K3) (fun (r : Int32 → Option Int32) => ∀ (x4 : Int32), vO p l e (vR 0 0 0) s m args below meth c D dA (vA h0 z0) 3 True Q 0 0 h0 z0 [(0, .ref a0), (1, .int p1), (2, .int x4)] 2 [] (r x4)) ?_ ?_ fu 0
      · intro x4
        exact v_none
      · intro rec5 Hrec5 x4
        unfold LT_leastPlaceToChange_2
        refine v_iload_n C dT_leastPlaceToChange_2 rfl 2 rfl ?_
        refine v_iload_n C dT_leastPlaceToChange_3 rfl 1 rfl ?_
        refine v_icmp_ge (tgt := 40) C dT_leastPlaceToChange_4 (by decide) ?_ ?_
        · refine v_lv (lv' := [(1, .int p1)]) [1] rfl ?_
          exact HK1
        · refine v_aload_n C dT_leastPlaceToChange_7 rfl 0 rfl ?_
          refine v_getR C v_cl3 (by decide) in_3 rfl w_156 dT_leastPlaceToChange_8 (fun a6 => ?_)
          refine v_iload_n C dT_leastPlaceToChange_11 rfl 2 rfl ?_
          refine v_iald C rfl dT_leastPlaceToChange_12 (fun x7 => ?_)
          refine v_aload_n C dT_leastPlaceToChange_13 rfl 0 rfl ?_
          refine v_getR C v_cl3 (by decide) in_3 rfl w_156 dT_leastPlaceToChange_14 (fun a8 => ?_)
          refine v_iload_n C dT_leastPlaceToChange_17 rfl 1 rfl ?_
          refine v_iald C rfl dT_leastPlaceToChange_18 (fun x9 => ?_)
          refine v_jn (fun (j : Option Int32) => vO p l e (vR 0 0 0) s m args below meth c D dA (vA h0 z0) 3 True Q 0 0 h0 z0 [(0, .ref a0), (1, .int p1), (2, .int x4)] 34 [] j) ?_ (fun j10 Hj10 => ?_)
          · refine v_iinc (v := (x4 + 1)) (lv' := [(0, .ref a0), (1, .int p1), (2, .int (x4 + 1))]) C dT_leastPlaceToChange_34 2 rfl rfl (by decide) [1, 2, 0] rfl ?_
            refine v_goto (tgt := 2) C dT_leastPlaceToChange_37 (by decide) ?_
            exact Hrec5 (x4 + 1)
          · refine v_icmp_ne (tgt := 34) C dT_leastPlaceToChange_19 (by decide) ?_ ?_
            · exact Hj10
            · refine v_iload_n C dT_leastPlaceToChange_22 rfl 2 rfl ?_
              refine v_aload_n C dT_leastPlaceToChange_23 rfl 0 rfl ?_
              refine v_getR C v_cl3 (by decide) in_3 rfl w_160 dT_leastPlaceToChange_24 (fun a11 => ?_)
              refine v_iload_n C dT_leastPlaceToChange_27 rfl 1 rfl ?_
              refine v_iald C rfl dT_leastPlaceToChange_28 (fun x12 => ?_)
              refine v_icmp_eq (tgt := 34) C dT_leastPlaceToChange_29 (by decide) ?_ ?_
              · exact Hj10
              · refine v_lv (lv' := [(2, .int x4)]) [2] rfl ?_
                exact HK3 x4
theorem dT_changePlaces_0 : decode prog_5_method_14_code 0 = .ok (.aload_n 0, 1) := by decide +kernel
theorem dT_changePlaces_1 : decode prog_5_method_14_code 1 = .ok (.getfield 35, 3) := by decide +kernel
theorem dT_changePlaces_4 : decode prog_5_method_14_code 4 = .ok (.iload_n 1, 1) := by decide +kernel
theorem dT_changePlaces_5 : decode prog_5_method_14_code 5 = .ok (.iaload, 1) := by decide +kernel
theorem dT_changePlaces_6 : decode prog_5_method_14_code 6 = .ok (.istore_n 3, 1) := by decide +kernel
theorem dT_changePlaces_7 : decode prog_5_method_14_code 7 = .ok (.aload_n 0, 1) := by decide +kernel
theorem dT_changePlaces_8 : decode prog_5_method_14_code 8 = .ok (.getfield 39, 3) := by decide +kernel
theorem dT_changePlaces_11 : decode prog_5_method_14_code 11 = .ok (.iload_n 1, 1) := by decide +kernel
theorem dT_changePlaces_12 : decode prog_5_method_14_code 12 = .ok (.iaload, 1) := by decide +kernel
theorem dT_changePlaces_13 : decode prog_5_method_14_code 13 = .ok (.istore 4, 2) := by decide +kernel
theorem dT_changePlaces_15 : decode prog_5_method_14_code 15 = .ok (.aload_n 0, 1) := by decide +kernel
theorem dT_changePlaces_16 : decode prog_5_method_14_code 16 = .ok (.getfield 45, 3) := by decide +kernel
theorem dT_changePlaces_19 : decode prog_5_method_14_code 19 = .ok (.iload_n 1, 1) := by decide +kernel
theorem dT_changePlaces_20 : decode prog_5_method_14_code 20 = .ok (.iaload, 1) := by decide +kernel
theorem dT_changePlaces_21 : decode prog_5_method_14_code 21 = .ok (.istore 5, 2) := by decide +kernel
theorem dT_changePlaces_23 : decode prog_5_method_14_code 23 = .ok (.aload_n 0, 1) := by decide +kernel
theorem dT_changePlaces_24 : decode prog_5_method_14_code 24 = .ok (.getfield 48, 3) := by decide +kernel
theorem dT_changePlaces_27 : decode prog_5_method_14_code 27 = .ok (.iload_n 1, 1) := by decide +kernel
theorem dT_changePlaces_28 : decode prog_5_method_14_code 28 = .ok (.iaload, 1) := by decide +kernel
theorem dT_changePlaces_29 : decode prog_5_method_14_code 29 = .ok (.istore 6, 2) := by decide +kernel
theorem dT_changePlaces_31 : decode prog_5_method_14_code 31 = .ok (.aload_n 0, 1) := by decide +kernel
theorem dT_changePlaces_32 : decode prog_5_method_14_code 32 = .ok (.iload_n 1, 1) := by decide +kernel
theorem dT_changePlaces_33 : decode prog_5_method_14_code 33 = .ok (.aload_n 0, 1) := by decide +kernel
theorem dT_changePlaces_34 : decode prog_5_method_14_code 34 = .ok (.getfield 35, 3) := by decide +kernel
theorem dT_changePlaces_37 : decode prog_5_method_14_code 37 = .ok (.iload_n 2, 1) := by decide +kernel
theorem dT_changePlaces_38 : decode prog_5_method_14_code 38 = .ok (.iaload, 1) := by decide +kernel
theorem dT_changePlaces_39 : decode prog_5_method_14_code 39 = .ok (.aload_n 0, 1) := by decide +kernel
theorem dT_changePlaces_40 : decode prog_5_method_14_code 40 = .ok (.getfield 39, 3) := by decide +kernel
theorem dT_changePlaces_43 : decode prog_5_method_14_code 43 = .ok (.iload_n 2, 1) := by decide +kernel
theorem dT_changePlaces_44 : decode prog_5_method_14_code 44 = .ok (.iaload, 1) := by decide +kernel
theorem dT_changePlaces_45 : decode prog_5_method_14_code 45 = .ok (.aload_n 0, 1) := by decide +kernel
theorem dT_changePlaces_46 : decode prog_5_method_14_code 46 = .ok (.getfield 45, 3) := by decide +kernel
theorem dT_changePlaces_49 : decode prog_5_method_14_code 49 = .ok (.iload_n 2, 1) := by decide +kernel
theorem dT_changePlaces_50 : decode prog_5_method_14_code 50 = .ok (.iaload, 1) := by decide +kernel
theorem dT_changePlaces_51 : decode prog_5_method_14_code 51 = .ok (.aload_n 0, 1) := by decide +kernel
theorem dT_changePlaces_52 : decode prog_5_method_14_code 52 = .ok (.getfield 48, 3) := by decide +kernel
theorem dT_changePlaces_55 : decode prog_5_method_14_code 55 = .ok (.iload_n 2, 1) := by decide +kernel
theorem dT_changePlaces_56 : decode prog_5_method_14_code 56 = .ok (.iaload, 1) := by decide +kernel
theorem dT_changePlaces_57 : decode prog_5_method_14_code 57 = .ok (.invokevirtual 60, 3) := by decide +kernel
theorem dT_changePlaces_60 : decode prog_5_method_14_code 60 = .ok (.aload_n 0, 1) := by decide +kernel
theorem dT_changePlaces_61 : decode prog_5_method_14_code 61 = .ok (.iload_n 2, 1) := by decide +kernel
theorem dT_changePlaces_62 : decode prog_5_method_14_code 62 = .ok (.iload_n 3, 1) := by decide +kernel
theorem dT_changePlaces_63 : decode prog_5_method_14_code 63 = .ok (.iload 4, 2) := by decide +kernel
theorem dT_changePlaces_65 : decode prog_5_method_14_code 65 = .ok (.iload 5, 2) := by decide +kernel
theorem dT_changePlaces_67 : decode prog_5_method_14_code 67 = .ok (.iload 6, 2) := by decide +kernel
theorem dT_changePlaces_69 : decode prog_5_method_14_code 69 = .ok (.invokevirtual 60, 3) := by decide +kernel
theorem dT_changePlaces_72 : decode prog_5_method_14_code 72 = .ok (.return_, 1) := by decide +kernel
def FT_changePlaces (h0 : Hp) (a0 : Nat) (p1 : Int32) (p2 : Int32) : Option Hp :=
  gR h0 a0 3 2 (fun a1 =>
  ldI h0 a1 0 p1 (fun x2 =>
  gR h0 a0 3 3 (fun a3 =>
  ldI h0 a3 0 p1 (fun x4 =>
  gR h0 a0 3 5 (fun a5 =>
  ldI h0 a5 0 p1 (fun x6 =>
  gR h0 a0 3 6 (fun a7 =>
  ldI h0 a7 0 p1 (fun x8 =>
  gR h0 a0 3 2 (fun a9 =>
  ldI h0 a9 0 p2 (fun x10 =>
  gR h0 a0 3 3 (fun a11 =>
  ldI h0 a11 0 p2 (fun x12 =>
  gR h0 a0 3 5 (fun a13 =>
  ldI h0 a13 0 p2 (fun x14 =>
  gR h0 a0 3 6 (fun a15 =>
  ldI h0 a15 0 p2 (fun x16 =>
  gd (isO h0 a0 3 = true) ((FT_fill h0 a0 p1 x10 x12 x14 x16).bind (fun r18 =>
  gd (isO r18 a0 3 = true) ((FT_fill r18 a0 p2 x2 x4 x6 x8).bind (fun r20 =>
  some r20))))))))))))))))))))
set_option maxRecDepth 100000 in
set_option maxHeartbeats 4000000 in
theorem mT_changePlaces (l : Launch) (h0 : Hp) (z0 : Nat) (a0 : Nat) (p1 : Int32) (p2 : Int32) (r : Hp) (hr : FT_changePlaces h0 a0 p1 p2 = some r) : vM False l yT_changePlaces (Cond.code yT_changePlaces prog_5_method_14_code 7 none :: gW) 1 [.ref a0, .int p1, .int p2] h0 z0 r z0 none 0 0 := by
  refine vM.of (by decide) rfl (Nat.le_of_ble_eq_true rfl) ?_
  intro p e s m args below meth c D dA C hin2
  refine (?_ : vO p l e (vR 1 0 0) s m args below meth c D dA (vA h0 z0) 7 False (fun r : Hp => MQ below (vQc False h0 z0 D dA r z0 none) args s 0 0 (vAr False h0 z0)) 0 0 h0 z0 [(0, .ref a0), (1, .int p1), (2, .int p2)] 0 [] (FT_changePlaces h0 a0 p1 p2)) r hr
  obtain ⟨Q, hQ⟩ : ∃ Q : Hp → State → Prop, Q = (fun r : Hp => MQ below (vQc False h0 z0 D dA r z0 none) args s 0 0 (vAr False h0 z0)) := ⟨_, rfl⟩
  rw [← hQ]
  unfold FT_changePlaces
  refine v_aload_n C dT_changePlaces_0 rfl 0 rfl ?_
  refine v_getR C v_cl3 (by decide) in_3 rfl w_156 dT_changePlaces_1 (fun a1 => ?_)
  refine v_iload_n C dT_changePlaces_4 rfl 1 rfl ?_
  refine v_iald C rfl dT_changePlaces_5 (fun x2 => ?_)
  refine v_istore_n (lv' := [(0, .ref a0), (1, .int p1), (2, .int p2), (3, .int x2)]) C dT_changePlaces_6 rfl (by decide) [1, 2, 3, 0] rfl ?_
  refine v_aload_n C dT_changePlaces_7 rfl 0 rfl ?_
  refine v_getR C v_cl3 (by decide) in_3 rfl w_158 dT_changePlaces_8 (fun a3 => ?_)
  refine v_iload_n C dT_changePlaces_11 rfl 1 rfl ?_
  refine v_iald C rfl dT_changePlaces_12 (fun x4 => ?_)
  refine v_istore (lv' := [(0, .ref a0), (1, .int p1), (2, .int p2), (3, .int x2), (4, .int x4)]) C dT_changePlaces_13 (by decide) [1, 2, 3, 4, 0] rfl ?_
  refine v_aload_n C dT_changePlaces_15 rfl 0 rfl ?_
  refine v_getR C v_cl3 (by decide) in_3 rfl w_162 dT_changePlaces_16 (fun a5 => ?_)
  refine v_iload_n C dT_changePlaces_19 rfl 1 rfl ?_
  refine v_iald C rfl dT_changePlaces_20 (fun x6 => ?_)
  refine v_istore (lv' := [(0, .ref a0), (1, .int p1), (2, .int p2), (3, .int x2), (4, .int x4), (5, .int x6)]) C dT_changePlaces_21 (by decide) [1, 2, 3, 4, 5, 0] rfl ?_
  refine v_aload_n C dT_changePlaces_23 rfl 0 rfl ?_
  refine v_getR C v_cl3 (by decide) in_3 rfl w_164 dT_changePlaces_24 (fun a7 => ?_)
  refine v_iload_n C dT_changePlaces_27 rfl 1 rfl ?_
  refine v_iald C rfl dT_changePlaces_28 (fun x8 => ?_)
  refine v_istore (lv' := [(0, .ref a0), (1, .int p1), (2, .int p2), (3, .int x2), (4, .int x4), (5, .int x6), (6, .int x8)]) C dT_changePlaces_29 (by decide) [1, 2, 3, 4, 5, 6, 0] rfl ?_
  refine v_aload_n C dT_changePlaces_31 rfl 0 rfl ?_
  refine v_iload_n C dT_changePlaces_32 rfl 1 rfl ?_
  refine v_aload_n C dT_changePlaces_33 rfl 0 rfl ?_
  refine v_getR C v_cl3 (by decide) in_3 rfl w_156 dT_changePlaces_34 (fun a9 => ?_)
  refine v_iload_n C dT_changePlaces_37 rfl 2 rfl ?_
  refine v_iald C rfl dT_changePlaces_38 (fun x10 => ?_)
  refine v_aload_n C dT_changePlaces_39 rfl 0 rfl ?_
  refine v_getR C v_cl3 (by decide) in_3 rfl w_158 dT_changePlaces_40 (fun a11 => ?_)
  refine v_iload_n C dT_changePlaces_43 rfl 2 rfl ?_
  refine v_iald C rfl dT_changePlaces_44 (fun x12 => ?_)
  refine v_aload_n C dT_changePlaces_45 rfl 0 rfl ?_
  refine v_getR C v_cl3 (by decide) in_3 rfl w_162 dT_changePlaces_46 (fun a13 => ?_)
  refine v_iload_n C dT_changePlaces_49 rfl 2 rfl ?_
  refine v_iald C rfl dT_changePlaces_50 (fun x14 => ?_)
  refine v_aload_n C dT_changePlaces_51 rfl 0 rfl ?_
  refine v_getR C v_cl3 (by decide) in_3 rfl w_164 dT_changePlaces_52 (fun a15 => ?_)
  refine v_iload_n C dT_changePlaces_55 rfl 2 rfl ?_
  refine v_iald C rfl dT_changePlaces_56 (fun x16 => ?_)
  refine v_gd fun hO17 => ?_
  refine v_bind fun r18 hr18 => ?_
  refine v_callV0 (N := 5) (As := [.int p1, .int x10, .int x12, .int x14, .int x16]) (st := []) C (fun f => f.elim) (mT_fill l h0 z0 a0 p1 x10 x12 x14 x16 r18 hr18) rfl w_153 w_50 (by decide +kernel) ⟨Nat.le_of_ble_eq_true rfl, Nat.le_of_ble_eq_true rfl⟩ rfl rfl (Nat.le_of_ble_eq_true rfl) ⟨Nat.zero_le _, Nat.zero_le _⟩ w_150 w_152 w_1 v_cl3 rfl hO17 dT_changePlaces_57 ?_
  refine v_aload_n C dT_changePlaces_60 rfl 0 rfl ?_
  refine v_iload_n C dT_changePlaces_61 rfl 2 rfl ?_
  refine v_iload_n C dT_changePlaces_62 rfl 3 rfl ?_
  refine v_iload C dT_changePlaces_63 4 rfl ?_
  refine v_iload C dT_changePlaces_65 5 rfl ?_
  refine v_iload C dT_changePlaces_67 6 rfl ?_
  refine v_gd fun hO19 => ?_
  refine v_bind fun r20 hr20 => ?_
  refine v_callV0 (N := 5) (As := [.int p2, .int x2, .int x4, .int x6, .int x8]) (st := []) C (fun f => f.elim) (mT_fill l r18 z0 a0 p2 x2 x4 x6 x8 r20 hr20) rfl w_153 w_50 (by decide +kernel) ⟨Nat.le_of_ble_eq_true rfl, Nat.le_of_ble_eq_true rfl⟩ rfl rfl (Nat.le_of_ble_eq_true rfl) ⟨Nat.zero_le _, Nat.zero_le _⟩ w_150 w_152 w_1 v_cl3 rfl hO19 dT_changePlaces_69 ?_
  exact v_vret C dT_changePlaces_72 (by rw [hQ])
theorem dT_stepCounted_0 : decode prog_5_method_12_code 0 = .ok (.aload_n 0, 1) := by decide +kernel
theorem dT_stepCounted_1 : decode prog_5_method_12_code 1 = .ok (.getfield 51, 3) := by decide +kernel
theorem dT_stepCounted_4 : decode prog_5_method_12_code 4 = .ok (.iload_n 1, 1) := by decide +kernel
theorem dT_stepCounted_5 : decode prog_5_method_12_code 5 = .ok (.iaload, 1) := by decide +kernel
theorem dT_stepCounted_6 : decode prog_5_method_12_code 6 = .ok (.istore_n 2, 1) := by decide +kernel
theorem dT_stepCounted_7 : decode prog_5_method_12_code 7 = .ok (.iconst 0, 1) := by decide +kernel
theorem dT_stepCounted_8 : decode prog_5_method_12_code 8 = .ok (.istore_n 3, 1) := by decide +kernel
theorem dT_stepCounted_9 : decode prog_5_method_12_code 9 = .ok (.iload_n 2, 1) := by decide +kernel
theorem dT_stepCounted_10 : decode prog_5_method_12_code 10 = .ok (.iconst (-1), 1) := by decide +kernel
theorem dT_stepCounted_11 : decode prog_5_method_12_code 11 = .ok (.if_icmp .eq 57, 3) := by decide +kernel
theorem dT_stepCounted_14 : decode prog_5_method_12_code 14 = .ok (.iload_n 3, 1) := by decide +kernel
theorem dT_stepCounted_15 : decode prog_5_method_12_code 15 = .ok (.aload_n 0, 1) := by decide +kernel
theorem dT_stepCounted_16 : decode prog_5_method_12_code 16 = .ok (.getfield 15, 3) := by decide +kernel
theorem dT_stepCounted_19 : decode prog_5_method_12_code 19 = .ok (.if_icmp .ge 49, 3) := by decide +kernel
theorem dT_stepCounted_22 : decode prog_5_method_12_code 22 = .ok (.aload_n 0, 1) := by decide +kernel
theorem dT_stepCounted_23 : decode prog_5_method_12_code 23 = .ok (.iload_n 2, 1) := by decide +kernel
theorem dT_stepCounted_24 : decode prog_5_method_12_code 24 = .ok (.invokevirtual 89, 3) := by decide +kernel
theorem dT_stepCounted_27 : decode prog_5_method_12_code 27 = .ok (.istore 4, 2) := by decide +kernel
theorem dT_stepCounted_29 : decode prog_5_method_12_code 29 = .ok (.iload 4, 2) := by decide +kernel
theorem dT_stepCounted_31 : decode prog_5_method_12_code 31 = .ok (.iload_n 2, 1) := by decide +kernel
theorem dT_stepCounted_32 : decode prog_5_method_12_code 32 = .ok (.if_icmp .ge 13, 3) := by decide +kernel
theorem dT_stepCounted_35 : decode prog_5_method_12_code 35 = .ok (.aload_n 0, 1) := by decide +kernel
theorem dT_stepCounted_36 : decode prog_5_method_12_code 36 = .ok (.iload 4, 2) := by decide +kernel
theorem dT_stepCounted_38 : decode prog_5_method_12_code 38 = .ok (.iload_n 2, 1) := by decide +kernel
theorem dT_stepCounted_39 : decode prog_5_method_12_code 39 = .ok (.invokevirtual 92, 3) := by decide +kernel
theorem dT_stepCounted_42 : decode prog_5_method_12_code 42 = .ok (.iload 4, 2) := by decide +kernel
theorem dT_stepCounted_44 : decode prog_5_method_12_code 44 = .ok (.istore_n 2, 1) := by decide +kernel
theorem dT_stepCounted_45 : decode prog_5_method_12_code 45 = .ok (.aload_n 0, 1) := by decide +kernel
theorem dT_stepCounted_46 : decode prog_5_method_12_code 46 = .ok (.getfield 35, 3) := by decide +kernel
theorem dT_stepCounted_49 : decode prog_5_method_12_code 49 = .ok (.iload_n 2, 1) := by decide +kernel
theorem dT_stepCounted_50 : decode prog_5_method_12_code 50 = .ok (.dup2, 1) := by decide +kernel
theorem dT_stepCounted_51 : decode prog_5_method_12_code 51 = .ok (.iaload, 1) := by decide +kernel
theorem dT_stepCounted_52 : decode prog_5_method_12_code 52 = .ok (.iconst 1, 1) := by decide +kernel
theorem dT_stepCounted_53 : decode prog_5_method_12_code 53 = .ok (.iadd, 1) := by decide +kernel
theorem dT_stepCounted_54 : decode prog_5_method_12_code 54 = .ok (.iastore, 1) := by decide +kernel
theorem dT_stepCounted_55 : decode prog_5_method_12_code 55 = .ok (.aload_n 0, 1) := by decide +kernel
theorem dT_stepCounted_56 : decode prog_5_method_12_code 56 = .ok (.getfield 42, 3) := by decide +kernel
theorem dT_stepCounted_59 : decode prog_5_method_12_code 59 = .ok (.iload_n 2, 1) := by decide +kernel
theorem dT_stepCounted_60 : decode prog_5_method_12_code 60 = .ok (.iaload, 1) := by decide +kernel
theorem dT_stepCounted_61 : decode prog_5_method_12_code 61 = .ok (.istore_n 2, 1) := by decide +kernel
theorem dT_stepCounted_62 : decode prog_5_method_12_code 62 = .ok (.iinc 3 1, 3) := by decide +kernel
theorem dT_stepCounted_65 : decode prog_5_method_12_code 65 = .ok (.goto (-56), 3) := by decide +kernel
theorem dT_stepCounted_68 : decode prog_5_method_12_code 68 = .ok (.return_, 1) := by decide +kernel
def LT_stepCounted_9 (a0 : Nat) (K4 : Hp → Option Hp) (rec8 : Hp → Int32 → Int32 → Option Hp) (h5 : Hp) (x6 : Int32) (x7 : Int32) : Option Hp :=
  if x6 = (-1) then
    (K4 h5)
  else
    (gI h5 a0 3 9 (fun x9 =>
    if x9 ≤ x7 then
      (K4 h5)
    else
      (gd (isO h5 a0 3 = true) ((FT_leastPlaceToChange h5 a0 x6).bind (fun r11 =>
      jn (fun (h12 : Hp) (x13 : Int32) =>
      gR h12 a0 3 2 (fun a15 =>
      ldI h12 a15 0 x13 (fun x16 =>
      stI h12 a15 0 x13 (x16 + 1) (fun h17 =>
      gR h17 a0 3 4 (fun a18 =>
      ldI h17 a18 0 x13 (fun x19 =>
      rec8 h17 x19 (x7 + 1)))))))
      (fun (j14 : Hp → Int32 → Option Hp) =>
      if x6 ≤ r11 then
        (j14 h5 x6)
      else
        (gd (isO h5 a0 3 = true) ((FT_changePlaces h5 a0 r11 x6).bind (fun r21 =>
        j14 r21 r11)))))))))
def FT_stepCounted (h0 : Hp) (a0 : Nat) (p1 : Int32) : Option Hp :=
  gR h0 a0 3 7 (fun a1 =>
  ldI h0 a1 0 p1 (fun x2 =>
  jn (fun (h3 : Hp) =>
  some h3)
  (fun (K4 : Hp → Option Hp) =>
  lpG (fun _ _ _ => none) fu (LT_stepCounted_9 a0 K4) h0 x2 0)))
set_option maxRecDepth 100000 in
set_option maxHeartbeats 4000000 in
theorem mT_stepCounted (l : Launch) (h0 : Hp) (z0 : Nat) (a0 : Nat) (p1 : Int32) (r : Hp) (hr : FT_stepCounted h0 a0 p1 = some r) : vM False l yT_stepCounted (Cond.code yT_stepCounted prog_5_method_12_code 5 none :: gW) 2 [.ref a0, .int p1] h0 z0 r z0 none 0 0 := by
  refine vM.of (by decide) rfl (Nat.le_of_ble_eq_true rfl) ?_
  intro p e s m args below meth c D dA C hin2
  refine (?_ : vO p l e (vR 2 0 0) s m args below meth c D dA (vA h0 z0) 5 False (fun r : Hp => MQ below (vQc False h0 z0 D dA r z0 none) args s 0 0 (vAr False h0 z0)) 0 0 h0 z0 [(0, .ref a0), (1, .int p1)] 0 [] (FT_stepCounted h0 a0 p1)) r hr
  obtain ⟨Q, hQ⟩ : ∃ Q : Hp → State → Prop, Q = (fun r : Hp => MQ below (vQc False h0 z0 D dA r z0 none) args s 0 0 (vAr False h0 z0)) := ⟨_, rfl⟩
  rw [← hQ]
  unfold FT_stepCounted
  refine v_aload_n C dT_stepCounted_0 rfl 0 rfl ?_
  refine v_getR C v_cl3 (by decide) in_3 rfl w_165 dT_stepCounted_1 (fun a1 => ?_)
  refine v_iload_n C dT_stepCounted_4 rfl 1 rfl ?_
  refine v_iald C rfl dT_stepCounted_5 (fun x2 => ?_)
  refine v_istore_n (lv' := [(0, .ref a0), (2, .int x2)]) C dT_stepCounted_6 rfl (by decide) [1, 0] rfl ?_
  refine v_iconst (v := 0) C dT_stepCounted_7 (by decide) ?_
  refine v_istore_n (lv' := [(0, .ref a0), (2, .int x2), (3, .int 0)]) C dT_stepCounted_8 rfl (by decide) [1, 2, 0] rfl ?_
  refine v_jn (fun (j : Hp → Option Hp) => ∀ (h3 : Hp), vO p l e (vR 2 0 0) s m args below meth c D dA (vA h0 z0) 5 False Q 0 0 h3 z0 [] 68 [] (j h3)) ?_ (fun K4 HK4 => ?_)
  · intro h3
    exact v_vret C dT_stepCounted_68 (by rw [hQ])
  · refine lpG_ind (bot := (fun _ _ _ => none)) (B := LT_stepCounted_9 a0 K4) (fun (r : Hp → Int32 → Int32 → Option Hp) => ∀ (h5 : Hp), ∀ (x6 : Int32), ∀ (x7 : Int32), vO p l e (vR 2 0 0) s m args below meth c D dA (vA h0 z0) 5 False Q 0 0 h5 z0 [(0, .ref a0), (2, .int x6), (3, .int x7)] 9 [] (r h5 x6 x7)) ?_ ?_ fu h0 x2 0
    · intro h5 x6 x7
      exact v_none
    · intro rec8 Hrec8 h5 x6 x7
      unfold LT_stepCounted_9
      refine v_iload_n C dT_stepCounted_9 rfl 1 rfl ?_
      refine v_iconst (v := (-1)) C dT_stepCounted_10 (by decide) ?_
      refine v_icmp_eq (tgt := 68) C dT_stepCounted_11 (by decide) ?_ ?_
      · refine v_lv (lv' := []) [] rfl ?_
        exact HK4 h5
      · refine v_iload_n C dT_stepCounted_14 rfl 2 rfl ?_
        refine v_aload_n C dT_stepCounted_15 rfl 0 rfl ?_
        refine v_getI C v_cl3 (by decide) in_3 rfl w_169 dT_stepCounted_16 (fun x9 => ?_)
        refine v_icmp_ge (tgt := 68) C dT_stepCounted_19 (by decide) ?_ ?_
        · refine v_lv (lv' := []) [] rfl ?_
          exact HK4 h5
        · refine v_aload_n C dT_stepCounted_22 rfl 0 rfl ?_
          refine v_iload_n C dT_stepCounted_23 rfl 1 rfl ?_
          refine v_gd fun hO10 => ?_
          refine v_bind fun r11 hr11 => ?_
          refine v_callV0 (N := 1) (As := [.int x6]) (st := []) C (fun _ => trivial) (mT_leastPlaceToChange l h5 z0 a0 x6 r11 hr11) rfl w_326 w_50 (by decide +kernel) ⟨Nat.le_of_ble_eq_true rfl, Nat.le_of_ble_eq_true rfl⟩ rfl rfl (Nat.le_of_ble_eq_true rfl) ⟨Nat.zero_le _, Nat.zero_le _⟩ w_323 w_325 w_9 v_cl3 rfl hO10 dT_stepCounted_24 ?_
          refine v_istore (lv' := [(0, .ref a0), (2, .int x6), (3, .int x7), (4, .int r11)]) C dT_stepCounted_27 (by decide) [1, 2, 3, 0] rfl ?_
          refine v_iload C dT_stepCounted_29 3 rfl ?_
          refine v_iload_n C dT_stepCounted_31 rfl 1 rfl ?_
          refine v_jn (fun (j : Hp → Int32 → Option Hp) => ∀ (h12 : Hp), ∀ (x13 : Int32), vO p l e (vR 2 0 0) s m args below meth c D dA (vA h0 z0) 5 False Q 0 0 h12 z0 [(0, .ref a0), (2, .int x13), (3, .int x7)] 45 [] (j h12 x13)) ?_ (fun j14 Hj14 => ?_)
          · intro h12 x13
            refine v_aload_n C dT_stepCounted_45 rfl 0 rfl ?_
            refine v_getR C v_cl3 (by decide) in_3 rfl w_156 dT_stepCounted_46 (fun a15 => ?_)
            refine v_iload_n C dT_stepCounted_49 rfl 1 rfl ?_
            refine v_dup2 C dT_stepCounted_50 rfl rfl ?_
            refine v_iald C rfl dT_stepCounted_51 (fun x16 => ?_)
            refine v_iconst (v := 1) C dT_stepCounted_52 (by decide) ?_
            refine v_iadd C dT_stepCounted_53 ?_
            refine v_iast C rfl dT_stepCounted_54 (fun h17 => ?_)
            refine v_aload_n C dT_stepCounted_55 rfl 0 rfl ?_
            refine v_getR C v_cl3 (by decide) in_3 rfl w_160 dT_stepCounted_56 (fun a18 => ?_)
            refine v_iload_n C dT_stepCounted_59 rfl 1 rfl ?_
            refine v_iald C rfl dT_stepCounted_60 (fun x19 => ?_)
            refine v_istore_n (lv' := [(0, .ref a0), (2, .int x19), (3, .int x7)]) C dT_stepCounted_61 rfl (by decide) [1, 0, 2] rfl ?_
            refine v_iinc (v := (x7 + 1)) (lv' := [(0, .ref a0), (2, .int x19), (3, .int (x7 + 1))]) C dT_stepCounted_62 2 rfl rfl (by decide) [1, 2, 0] rfl ?_
            refine v_goto (tgt := 9) C dT_stepCounted_65 (by decide) ?_
            exact Hrec8 h17 x19 (x7 + 1)
          · refine v_icmp_ge (tgt := 45) C dT_stepCounted_32 (by decide) ?_ ?_
            · refine v_lv (lv' := [(0, .ref a0), (2, .int x6), (3, .int x7)]) [0, 1, 2] rfl ?_
              exact Hj14 h5 x6
            · refine v_aload_n C dT_stepCounted_35 rfl 0 rfl ?_
              refine v_iload C dT_stepCounted_36 3 rfl ?_
              refine v_iload_n C dT_stepCounted_38 rfl 1 rfl ?_
              refine v_gd fun hO20 => ?_
              refine v_bind fun r21 hr21 => ?_
              refine v_callV0 (N := 2) (As := [.int r11, .int x6]) (st := []) C (fun f => f.elim) (mT_changePlaces l h5 z0 a0 r11 x6 r21 hr21) rfl w_330 w_50 (by decide +kernel) ⟨Nat.le_of_ble_eq_true rfl, Nat.le_of_ble_eq_true rfl⟩ rfl rfl (Nat.le_of_ble_eq_true rfl) ⟨Nat.zero_le _, Nat.zero_le _⟩ w_327 w_329 w_10 v_cl3 rfl hO20 dT_stepCounted_39 ?_
              refine v_iload C dT_stepCounted_42 3 rfl ?_
              refine v_istore_n (lv' := [(0, .ref a0), (2, .int r11), (3, .int x7)]) C dT_stepCounted_44 rfl (by decide) [1, 0, 2] rfl ?_
              exact Hj14 r21 r11
theorem dP_set_0 : decode prog_3_method_4_code 0 = .ok (.aload_n 0, 1) := by decide +kernel
theorem dP_set_1 : decode prog_3_method_4_code 1 = .ok (.getfield 15, 3) := by decide +kernel
theorem dP_set_4 : decode prog_3_method_4_code 4 = .ok (.iload_n 1, 1) := by decide +kernel
theorem dP_set_5 : decode prog_3_method_4_code 5 = .ok (.iload_n 2, 1) := by decide +kernel
theorem dP_set_6 : decode prog_3_method_4_code 6 = .ok (.iastore, 1) := by decide +kernel
theorem dP_set_7 : decode prog_3_method_4_code 7 = .ok (.aload_n 0, 1) := by decide +kernel
theorem dP_set_8 : decode prog_3_method_4_code 8 = .ok (.getfield 19, 3) := by decide +kernel
theorem dP_set_11 : decode prog_3_method_4_code 11 = .ok (.iload_n 1, 1) := by decide +kernel
theorem dP_set_12 : decode prog_3_method_4_code 12 = .ok (.iload_n 3, 1) := by decide +kernel
theorem dP_set_13 : decode prog_3_method_4_code 13 = .ok (.iastore, 1) := by decide +kernel
theorem dP_set_14 : decode prog_3_method_4_code 14 = .ok (.aload_n 0, 1) := by decide +kernel
theorem dP_set_15 : decode prog_3_method_4_code 15 = .ok (.getfield 22, 3) := by decide +kernel
theorem dP_set_18 : decode prog_3_method_4_code 18 = .ok (.iload_n 1, 1) := by decide +kernel
theorem dP_set_19 : decode prog_3_method_4_code 19 = .ok (.iload 4, 2) := by decide +kernel
theorem dP_set_21 : decode prog_3_method_4_code 21 = .ok (.iastore, 1) := by decide +kernel
theorem dP_set_22 : decode prog_3_method_4_code 22 = .ok (.return_, 1) := by decide +kernel
def FP_set (h0 : Hp) (a0 : Nat) (p1 : Int32) (p2 : Int32) (p3 : Int32) (p4 : Int32) : Option Hp :=
  gR h0 a0 1 0 (fun a1 =>
  stI h0 a1 0 p1 p2 (fun h2 =>
  gR h2 a0 1 1 (fun a3 =>
  stI h2 a3 0 p1 p3 (fun h4 =>
  gR h4 a0 1 2 (fun a5 =>
  stI h4 a5 0 p1 p4 (fun h6 =>
  some h6))))))
set_option maxRecDepth 100000 in
set_option maxHeartbeats 4000000 in
theorem mP_set (l : Launch) (h0 : Hp) (z0 : Nat) (a0 : Nat) (p1 : Int32) (p2 : Int32) (p3 : Int32) (p4 : Int32) (r : Hp) (hr : FP_set h0 a0 p1 p2 p3 p4 = some r) : vM False l yP_set (Cond.code yP_set prog_3_method_4_code 5 none :: gW) 0 [.ref a0, .int p1, .int p2, .int p3, .int p4] h0 z0 r z0 none 0 0 := by
  refine vM.of (by decide) rfl (Nat.le_of_ble_eq_true rfl) ?_
  intro p e s m args below meth c D dA C hin2
  refine (?_ : vO p l e (vR 0 0 0) s m args below meth c D dA (vA h0 z0) 5 False (fun r : Hp => MQ below (vQc False h0 z0 D dA r z0 none) args s 0 0 (vAr False h0 z0)) 0 0 h0 z0 [(0, .ref a0), (1, .int p1), (2, .int p2), (3, .int p3), (4, .int p4)] 0 [] (FP_set h0 a0 p1 p2 p3 p4)) r hr
  obtain ⟨Q, hQ⟩ : ∃ Q : Hp → State → Prop, Q = (fun r : Hp => MQ below (vQc False h0 z0 D dA r z0 none) args s 0 0 (vAr False h0 z0)) := ⟨_, rfl⟩
  rw [← hQ]
  unfold FP_set
  refine v_aload_n C dP_set_0 rfl 0 rfl ?_
  refine v_getR C v_cl1 (by decide) in_1 rfl w_123 dP_set_1 (fun a1 => ?_)
  refine v_iload_n C dP_set_4 rfl 1 rfl ?_
  refine v_iload_n C dP_set_5 rfl 2 rfl ?_
  refine v_iast C rfl dP_set_6 (fun h2 => ?_)
  refine v_aload_n C dP_set_7 rfl 0 rfl ?_
  refine v_getR C v_cl1 (by decide) in_1 rfl w_125 dP_set_8 (fun a3 => ?_)
  refine v_iload_n C dP_set_11 rfl 1 rfl ?_
  refine v_iload_n C dP_set_12 rfl 3 rfl ?_
  refine v_iast C rfl dP_set_13 (fun h4 => ?_)
  refine v_aload_n C dP_set_14 rfl 0 rfl ?_
  refine v_getR C v_cl1 (by decide) in_1 rfl w_127 dP_set_15 (fun a5 => ?_)
  refine v_iload_n C dP_set_18 rfl 1 rfl ?_
  refine v_iload C dP_set_19 4 rfl ?_
  refine v_iast C rfl dP_set_21 (fun h6 => ?_)
  exact v_vret C dP_set_22 (by rw [hQ])
theorem dP_append_0 : decode prog_3_method_2_code 0 = .ok (.aload_n 0, 1) := by decide +kernel
theorem dP_append_1 : decode prog_3_method_2_code 1 = .ok (.getfield 9, 3) := by decide +kernel
theorem dP_append_4 : decode prog_3_method_2_code 4 = .ok (.aload_n 0, 1) := by decide +kernel
theorem dP_append_5 : decode prog_3_method_2_code 5 = .ok (.getfield 15, 3) := by decide +kernel
theorem dP_append_8 : decode prog_3_method_2_code 8 = .ok (.arraylength, 1) := by decide +kernel
theorem dP_append_9 : decode prog_3_method_2_code 9 = .ok (.if_icmp .ge 24, 3) := by decide +kernel
theorem dP_append_12 : decode prog_3_method_2_code 12 = .ok (.aload_n 0, 1) := by decide +kernel
theorem dP_append_13 : decode prog_3_method_2_code 13 = .ok (.aload_n 0, 1) := by decide +kernel
theorem dP_append_14 : decode prog_3_method_2_code 14 = .ok (.getfield 9, 3) := by decide +kernel
theorem dP_append_17 : decode prog_3_method_2_code 17 = .ok (.iload_n 1, 1) := by decide +kernel
theorem dP_append_18 : decode prog_3_method_2_code 18 = .ok (.iload_n 2, 1) := by decide +kernel
theorem dP_append_19 : decode prog_3_method_2_code 19 = .ok (.iconst (-1), 1) := by decide +kernel
theorem dP_append_20 : decode prog_3_method_2_code 20 = .ok (.invokevirtual 25, 3) := by decide +kernel
theorem dP_append_23 : decode prog_3_method_2_code 23 = .ok (.aload_n 0, 1) := by decide +kernel
theorem dP_append_24 : decode prog_3_method_2_code 24 = .ok (.dup, 1) := by decide +kernel
theorem dP_append_25 : decode prog_3_method_2_code 25 = .ok (.getfield 9, 3) := by decide +kernel
theorem dP_append_28 : decode prog_3_method_2_code 28 = .ok (.iconst 1, 1) := by decide +kernel
theorem dP_append_29 : decode prog_3_method_2_code 29 = .ok (.iadd, 1) := by decide +kernel
theorem dP_append_30 : decode prog_3_method_2_code 30 = .ok (.putfield 9, 3) := by decide +kernel
theorem dP_append_33 : decode prog_3_method_2_code 33 = .ok (.return_, 1) := by decide +kernel
def FP_append (h0 : Hp) (a0 : Nat) (p1 : Int32) (p2 : Int32) : Option Hp :=
  gI h0 a0 1 3 (fun x1 =>
  gR h0 a0 1 0 (fun a2 =>
  alen h0 a2 0 (fun x3 =>
  jn (fun (h4 : Hp) =>
  some h4)
  (fun (j5 : Hp → Option Hp) =>
  if x3 ≤ x1 then
    (j5 h0)
  else
    (gI h0 a0 1 3 (fun x6 =>
    gd (isO h0 a0 1 = true) ((FP_set h0 a0 x6 p1 p2 (-1)).bind (fun r8 =>
    gI r8 a0 1 3 (fun x9 =>
    pF r8 a0 1 3 (.int (x9 + 1)) (fun h10 =>
    j5 h10))))))))))
set_option maxRecDepth 100000 in
set_option maxHeartbeats 4000000 in
theorem mP_append (l : Launch) (h0 : Hp) (z0 : Nat) (a0 : Nat) (p1 : Int32) (p2 : Int32) (r : Hp) (hr : FP_append h0 a0 p1 p2 = some r) : vM False l yP_append (Cond.code yP_append prog_3_method_2_code 3 none :: gW) 1 [.ref a0, .int p1, .int p2] h0 z0 r z0 none 0 0 := by
  refine vM.of (by decide) rfl (Nat.le_of_ble_eq_true rfl) ?_
  intro p e s m args below meth c D dA C hin2
  refine (?_ : vO p l e (vR 1 0 0) s m args below meth c D dA (vA h0 z0) 3 False (fun r : Hp => MQ below (vQc False h0 z0 D dA r z0 none) args s 0 0 (vAr False h0 z0)) 0 0 h0 z0 [(0, .ref a0), (1, .int p1), (2, .int p2)] 0 [] (FP_append h0 a0 p1 p2)) r hr
  obtain ⟨Q, hQ⟩ : ∃ Q : Hp → State → Prop, Q = (fun r : Hp => MQ below (vQc False h0 z0 D dA r z0 none) args s 0 0 (vAr False h0 z0)) := ⟨_, rfl⟩
  rw [← hQ]
  unfold FP_append
  refine v_aload_n C dP_append_0 rfl 0 rfl ?_
  refine v_getI C v_cl1 (by decide) in_1 rfl w_129 dP_append_1 (fun x1 => ?_)
  refine v_aload_n C dP_append_4 rfl 0 rfl ?_
  refine v_getR C v_cl1 (by decide) in_1 rfl w_123 dP_append_5 (fun a2 => ?_)
  refine v_alen C rfl dP_append_8 (fun x3 => ?_)
  refine v_jn (fun (j : Hp → Option Hp) => ∀ (h4 : Hp), vO p l e (vR 1 0 0) s m args below meth c D dA (vA h0 z0) 3 False Q 0 0 h4 z0 [] 33 [] (j h4)) ?_ (fun j5 Hj5 => ?_)
  · intro h4
    exact v_vret C dP_append_33 (by rw [hQ])
  · refine v_icmp_ge (tgt := 33) C dP_append_9 (by decide) ?_ ?_
    · refine v_lv (lv' := []) [] rfl ?_
      exact Hj5 h0
    · refine v_aload_n C dP_append_12 rfl 0 rfl ?_
      refine v_aload_n C dP_append_13 rfl 0 rfl ?_
      refine v_getI C v_cl1 (by decide) in_1 rfl w_129 dP_append_14 (fun x6 => ?_)
      refine v_iload_n C dP_append_17 rfl 1 rfl ?_
      refine v_iload_n C dP_append_18 rfl 2 rfl ?_
      refine v_iconst (v := (-1)) C dP_append_19 (by decide) ?_
      refine v_gd fun hO7 => ?_
      refine v_bind fun r8 hr8 => ?_
      refine v_callV0 (N := 4) (As := [.int x6, .int p1, .int p2, .int (-1)]) (st := []) C (fun f => f.elim) (mP_set l h0 z0 a0 x6 p1 p2 (-1) r8 hr8) rfl w_346 w_49 (by decide +kernel) ⟨Nat.le_of_ble_eq_true rfl, Nat.le_of_ble_eq_true rfl⟩ rfl rfl (Nat.le_of_ble_eq_true rfl) ⟨Nat.zero_le _, Nat.zero_le _⟩ w_343 w_345 w_13 v_cl1 rfl hO7 dP_append_20 ?_
      refine v_aload_n C dP_append_23 rfl 0 rfl ?_
      refine v_dup C dP_append_24 rfl ?_
      refine v_getI C v_cl1 (by decide) in_1 rfl w_129 dP_append_25 (fun x9 => ?_)
      refine v_iconst (v := 1) C dP_append_28 (by decide) ?_
      refine v_iadd C dP_append_29 ?_
      refine v_put C v_cl1 (by decide) in_1 ty_1 ty_1_ok nm_1 rfl w_129 rfl (ty := .int) (by decide +kernel) rfl rfl dP_append_30 (fun h10 => ?_)
      refine v_lv (lv' := []) [] rfl ?_
      exact Hj5 h10
