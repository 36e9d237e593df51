theorem dM_drop_0 : decode prog_7_method_27_code 0 = .ok (.aload_n 0, 1) := by decide +kernel
theorem dM_drop_1 : decode prog_7_method_27_code 1 = .ok (.iconst 0, 1) := by decide +kernel
theorem dM_drop_2 : decode prog_7_method_27_code 2 = .ok (.putfield 73, 3) := by decide +kernel
theorem dM_drop_5 : decode prog_7_method_27_code 5 = .ok (.aload_n 0, 1) := by decide +kernel
theorem dM_drop_6 : decode prog_7_method_27_code 6 = .ok (.getfield 132, 3) := by decide +kernel
theorem dM_drop_9 : decode prog_7_method_27_code 9 = .ok (.istore_n 1, 1) := by decide +kernel
theorem dM_drop_10 : decode prog_7_method_27_code 10 = .ok (.aload_n 0, 1) := by decide +kernel
theorem dM_drop_11 : decode prog_7_method_27_code 11 = .ok (.iconst 0, 1) := by decide +kernel
theorem dM_drop_12 : decode prog_7_method_27_code 12 = .ok (.putfield 132, 3) := by decide +kernel
theorem dM_drop_15 : decode prog_7_method_27_code 15 = .ok (.aload_n 0, 1) := by decide +kernel
theorem dM_drop_16 : decode prog_7_method_27_code 16 = .ok (.iconst 0, 1) := by decide +kernel
theorem dM_drop_17 : decode prog_7_method_27_code 17 = .ok (.putfield 138, 3) := by decide +kernel
theorem dM_drop_20 : decode prog_7_method_27_code 20 = .ok (.aload_n 0, 1) := by decide +kernel
theorem dM_drop_21 : decode prog_7_method_27_code 21 = .ok (.iconst (-1), 1) := by decide +kernel
theorem dM_drop_22 : decode prog_7_method_27_code 22 = .ok (.putfield 66, 3) := by decide +kernel
theorem dM_drop_25 : decode prog_7_method_27_code 25 = .ok (.iload_n 1, 1) := by decide +kernel
theorem dM_drop_26 : decode prog_7_method_27_code 26 = .ok (.ireturn, 1) := by decide +kernel
def FM_drop (h0 : Hp) (a0 : Nat) : Option (Hp × Int32) :=
  pF h0 a0 5 20 (.int 0) (fun h1 =>
  gI h1 a0 5 13 (fun x2 =>
  pF h1 a0 5 13 (.int 0) (fun h3 =>
  pF h3 a0 5 15 (.int 0) (fun h4 =>
  pF h4 a0 5 16 (.int (-1)) (fun h5 =>
  some (h5, x2))))))
set_option maxRecDepth 100000 in
set_option maxHeartbeats 4000000 in
theorem mM_drop (l : Launch) (h0 : Hp) (z0 : Nat) (a0 : Nat) (r : (Hp × Int32)) (hr : FM_drop h0 a0 = some r) : vM False l yM_drop (Cond.code yM_drop prog_7_method_27_code 2 (some (.int)) :: gW) 0 [.ref a0] h0 z0 r.1 z0 (some (.int r.2)) 0 0 := by
  refine vM.of (by decide) rfl (Nat.le_of_ble_eq_true rfl) ?_
  intro p e s m args below meth c D dA C hin2
  refine (?_ : vO p l e (vR 0 0 0) s m args below meth c D dA (vA h0 z0) 2 False (fun r : (Hp × Int32) => MQ below (vQc False h0 z0 D dA r.1 z0 (some (.int r.2))) args s 0 0 (vAr False h0 z0)) 0 0 h0 z0 [(0, .ref a0)] 0 [] (FM_drop h0 a0)) r hr
  obtain ⟨Q, hQ⟩ : ∃ Q : (Hp × Int32) → State → Prop, Q = (fun r : (Hp × Int32) => MQ below (vQc False h0 z0 D dA r.1 z0 (some (.int r.2))) args s 0 0 (vAr False h0 z0)) := ⟨_, rfl⟩
  rw [← hQ]
  unfold FM_drop
  refine v_aload_n C dM_drop_0 rfl 0 rfl ?_
  refine v_iconst (v := 0) C dM_drop_1 (by decide) ?_
  refine v_put C v_cl5 (by decide) in_5 ty_5 ty_5_ok nm_5 rfl w_629 rfl (ty := .int) (by decide +kernel) rfl rfl dM_drop_2 (fun h1 => ?_)
  refine v_aload_n C dM_drop_5 rfl 0 rfl ?_
  refine v_getI C v_cl5 (by decide) in_5 rfl w_622 dM_drop_6 (fun x2 => ?_)
  refine v_istore_n (lv' := [(0, .ref a0), (1, .int x2)]) C dM_drop_9 rfl (by decide) [1, 0] rfl ?_
  refine v_aload_n C dM_drop_10 rfl 0 rfl ?_
  refine v_iconst (v := 0) C dM_drop_11 (by decide) ?_
  refine v_put C v_cl5 (by decide) in_5 ty_5 ty_5_ok nm_5 rfl w_622 rfl (ty := .int) (by decide +kernel) rfl rfl dM_drop_12 (fun h3 => ?_)
  refine v_aload_n C dM_drop_15 rfl 0 rfl ?_
  refine v_iconst (v := 0) C dM_drop_16 (by decide) ?_
  refine v_put C v_cl5 (by decide) in_5 ty_5 ty_5_ok nm_5 rfl w_624 rfl (ty := .int) (by decide +kernel) rfl rfl dM_drop_17 (fun h4 => ?_)
  refine v_aload_n C dM_drop_20 rfl 0 rfl ?_
  refine v_iconst (v := (-1)) C dM_drop_21 (by decide) ?_
  refine v_put C v_cl5 (by decide) in_5 ty_5 ty_5_ok nm_5 rfl w_625 rfl (ty := .int) (by decide +kernel) rfl rfl dM_drop_22 (fun h5 => ?_)
  refine v_iload_n C dM_drop_25 rfl 1 rfl ?_
  exact v_iret C dM_drop_26 (by rw [hQ])
theorem dM_ends_0 : decode prog_7_method_29_code 0 = .ok (.aload_n 0, 1) := by decide +kernel
theorem dM_ends_1 : decode prog_7_method_29_code 1 = .ok (.iconst (-1), 1) := by decide +kernel
theorem dM_ends_2 : decode prog_7_method_29_code 2 = .ok (.putfield 66, 3) := by decide +kernel
theorem dM_ends_5 : decode prog_7_method_29_code 5 = .ok (.aload_n 0, 1) := by decide +kernel
theorem dM_ends_6 : decode prog_7_method_29_code 6 = .ok (.iload_n 1, 1) := by decide +kernel
theorem dM_ends_7 : decode prog_7_method_29_code 7 = .ok (.iload_n 2, 1) := by decide +kernel
theorem dM_ends_8 : decode prog_7_method_29_code 8 = .ok (.invokevirtual 135, 3) := by decide +kernel
theorem dM_ends_11 : decode prog_7_method_29_code 11 = .ok (.iload_n 2, 1) := by decide +kernel
theorem dM_ends_12 : decode prog_7_method_29_code 12 = .ok (.ireturn, 1) := by decide +kernel
def FM_ends (h0 : Hp) (a0 : Nat) (p1 : Int32) (p2 : Int32) : Option (Hp × Int32) :=
  pF h0 a0 5 16 (.int (-1)) (fun h1 =>
  gd (isO h1 a0 5 = true) ((FM_steps h1 a0 p1 p2).bind (fun r3 =>
  some (r3, p2))))
set_option maxRecDepth 100000 in
set_option maxHeartbeats 4000000 in
theorem mM_ends (l : Launch) (h0 : Hp) (z0 : Nat) (a0 : Nat) (p1 : Int32) (p2 : Int32) (r : (Hp × Int32)) (hr : FM_ends h0 a0 p1 p2 = some r) : vM False l yM_ends (Cond.code yM_ends prog_7_method_29_code 3 (some (.int)) :: gW) 4 [.ref a0, .int p1, .int p2] h0 z0 r.1 z0 (some (.int r.2)) 0 0 := by
  refine vM.of (by decide) rfl (Nat.le_of_ble_eq_true rfl) ?_
  intro p e s m args below meth c D dA C hin2
  refine (?_ : vO p l e (vR 4 0 0) s m args below meth c D dA (vA h0 z0) 3 False (fun r : (Hp × Int32) => MQ below (vQc False h0 z0 D dA r.1 z0 (some (.int r.2))) args s 0 0 (vAr False h0 z0)) 0 0 h0 z0 [(0, .ref a0), (1, .int p1), (2, .int p2)] 0 [] (FM_ends h0 a0 p1 p2)) r hr
  obtain ⟨Q, hQ⟩ : ∃ Q : (Hp × Int32) → State → Prop, Q = (fun r : (Hp × Int32) => MQ below (vQc False h0 z0 D dA r.1 z0 (some (.int r.2))) args s 0 0 (vAr False h0 z0)) := ⟨_, rfl⟩
  rw [← hQ]
  unfold FM_ends
  refine v_aload_n C dM_ends_0 rfl 0 rfl ?_
  refine v_iconst (v := (-1)) C dM_ends_1 (by decide) ?_
  refine v_put C v_cl5 (by decide) in_5 ty_5 ty_5_ok nm_5 rfl w_625 rfl (ty := .int) (by decide +kernel) rfl rfl dM_ends_2 (fun h1 => ?_)
  refine v_aload_n C dM_ends_5 rfl 0 rfl ?_
  refine v_iload_n C dM_ends_6 rfl 1 rfl ?_
  refine v_iload_n C dM_ends_7 rfl 2 rfl ?_
  refine v_gd fun hO2 => ?_
  refine v_bind fun r3 hr3 => ?_
  refine v_callV0 (N := 2) (As := [.int p1, .int p2]) (st := []) C (fun f => f.elim) (mM_steps l h1 z0 a0 p1 p2 r3 hr3) rfl w_739 w_53 (by decide +kernel) ⟨Nat.le_of_ble_eq_true rfl, Nat.le_of_ble_eq_true rfl⟩ rfl rfl (Nat.le_of_ble_eq_true rfl) ⟨Nat.zero_le _, Nat.zero_le _⟩ w_736 w_738 w_32 v_cl5 rfl hO2 dM_ends_8 ?_
  refine v_iload_n C dM_ends_11 rfl 2 rfl ?_
  exact v_iret C dM_ends_12 (by rw [hQ])
theorem dM_takes_0 : decode prog_7_method_28_code 0 = .ok (.aload_n 0, 1) := by decide +kernel
theorem dM_takes_1 : decode prog_7_method_28_code 1 = .ok (.getfield 66, 3) := by decide +kernel
theorem dM_takes_4 : decode prog_7_method_28_code 4 = .ok (.iconst (-1), 1) := by decide +kernel
theorem dM_takes_5 : decode prog_7_method_28_code 5 = .ok (.if_icmp .ne 23, 3) := by decide +kernel
theorem dM_takes_8 : decode prog_7_method_28_code 8 = .ok (.aload_n 0, 1) := by decide +kernel
theorem dM_takes_9 : decode prog_7_method_28_code 9 = .ok (.iload_n 1, 1) := by decide +kernel
theorem dM_takes_10 : decode prog_7_method_28_code 10 = .ok (.putfield 66, 3) := by decide +kernel
theorem dM_takes_13 : decode prog_7_method_28_code 13 = .ok (.aload_n 0, 1) := by decide +kernel
theorem dM_takes_14 : decode prog_7_method_28_code 14 = .ok (.iconst 0, 1) := by decide +kernel
theorem dM_takes_15 : decode prog_7_method_28_code 15 = .ok (.putfield 141, 3) := by decide +kernel
theorem dM_takes_18 : decode prog_7_method_28_code 18 = .ok (.aload_n 0, 1) := by decide +kernel
theorem dM_takes_19 : decode prog_7_method_28_code 19 = .ok (.iconst 0, 1) := by decide +kernel
theorem dM_takes_20 : decode prog_7_method_28_code 20 = .ok (.putfield 144, 3) := by decide +kernel
theorem dM_takes_23 : decode prog_7_method_28_code 23 = .ok (.aload_n 0, 1) := by decide +kernel
theorem dM_takes_24 : decode prog_7_method_28_code 24 = .ok (.iconst 0, 1) := by decide +kernel
theorem dM_takes_25 : decode prog_7_method_28_code 25 = .ok (.putfield 147, 3) := by decide +kernel
theorem dM_takes_28 : decode prog_7_method_28_code 28 = .ok (.aload_n 0, 1) := by decide +kernel
theorem dM_takes_29 : decode prog_7_method_28_code 29 = .ok (.getfield 7, 3) := by decide +kernel
theorem dM_takes_32 : decode prog_7_method_28_code 32 = .ok (.iload_n 1, 1) := by decide +kernel
theorem dM_takes_33 : decode prog_7_method_28_code 33 = .ok (.iaload, 1) := by decide +kernel
theorem dM_takes_34 : decode prog_7_method_28_code 34 = .ok (.iconst 1, 1) := by decide +kernel
theorem dM_takes_35 : decode prog_7_method_28_code 35 = .ok (.if_icmp .eq 23, 3) := by decide +kernel
theorem dM_takes_38 : decode prog_7_method_28_code 38 = .ok (.aload_n 0, 1) := by decide +kernel
theorem dM_takes_39 : decode prog_7_method_28_code 39 = .ok (.getfield 144, 3) := by decide +kernel
theorem dM_takes_42 : decode prog_7_method_28_code 42 = .ok (.ifCond .ne 20, 3) := by decide +kernel
theorem dM_takes_45 : decode prog_7_method_28_code 45 = .ok (.aload_n 0, 1) := by decide +kernel
theorem dM_takes_46 : decode prog_7_method_28_code 46 = .ok (.iload_n 1, 1) := by decide +kernel
theorem dM_takes_47 : decode prog_7_method_28_code 47 = .ok (.aload_n 0, 1) := by decide +kernel
theorem dM_takes_48 : decode prog_7_method_28_code 48 = .ok (.getfield 141, 3) := by decide +kernel
theorem dM_takes_51 : decode prog_7_method_28_code 51 = .ok (.invokevirtual 101, 3) := by decide +kernel
theorem dM_takes_54 : decode prog_7_method_28_code 54 = .ok (.iconst (-1), 1) := by decide +kernel
theorem dM_takes_55 : decode prog_7_method_28_code 55 = .ok (.if_icmp .ne 7, 3) := by decide +kernel
theorem dM_takes_58 : decode prog_7_method_28_code 58 = .ok (.iconst 1, 1) := by decide +kernel
theorem dM_takes_59 : decode prog_7_method_28_code 59 = .ok (.goto 4, 3) := by decide +kernel
theorem dM_takes_62 : decode prog_7_method_28_code 62 = .ok (.iconst 0, 1) := by decide +kernel
theorem dM_takes_63 : decode prog_7_method_28_code 63 = .ok (.istore_n 3, 1) := by decide +kernel
theorem dM_takes_64 : decode prog_7_method_28_code 64 = .ok (.iload_n 3, 1) := by decide +kernel
theorem dM_takes_65 : decode prog_7_method_28_code 65 = .ok (.ifCond .eq 61, 3) := by decide +kernel
theorem dM_takes_68 : decode prog_7_method_28_code 68 = .ok (.aload_n 0, 1) := by decide +kernel
theorem dM_takes_69 : decode prog_7_method_28_code 69 = .ok (.getfield 7, 3) := by decide +kernel
theorem dM_takes_72 : decode prog_7_method_28_code 72 = .ok (.iload_n 1, 1) := by decide +kernel
theorem dM_takes_73 : decode prog_7_method_28_code 73 = .ok (.iaload, 1) := by decide +kernel
theorem dM_takes_74 : decode prog_7_method_28_code 74 = .ok (.iconst 1, 1) := by decide +kernel
theorem dM_takes_75 : decode prog_7_method_28_code 75 = .ok (.if_icmp .ne 51, 3) := by decide +kernel
theorem dM_takes_78 : decode prog_7_method_28_code 78 = .ok (.aload_n 0, 1) := by decide +kernel
theorem dM_takes_79 : decode prog_7_method_28_code 79 = .ok (.aload_n 0, 1) := by decide +kernel
theorem dM_takes_80 : decode prog_7_method_28_code 80 = .ok (.iload_n 1, 1) := by decide +kernel
theorem dM_takes_81 : decode prog_7_method_28_code 81 = .ok (.aload_n 0, 1) := by decide +kernel
theorem dM_takes_82 : decode prog_7_method_28_code 82 = .ok (.getfield 141, 3) := by decide +kernel
theorem dM_takes_85 : decode prog_7_method_28_code 85 = .ok (.iload_n 2, 1) := by decide +kernel
theorem dM_takes_86 : decode prog_7_method_28_code 86 = .ok (.invokevirtual 104, 3) := by decide +kernel
theorem dM_takes_89 : decode prog_7_method_28_code 89 = .ok (.putfield 141, 3) := by decide +kernel
theorem dM_takes_92 : decode prog_7_method_28_code 92 = .ok (.aload_n 0, 1) := by decide +kernel
theorem dM_takes_93 : decode prog_7_method_28_code 93 = .ok (.getfield 141, 3) := by decide +kernel
theorem dM_takes_96 : decode prog_7_method_28_code 96 = .ok (.aload_n 0, 1) := by decide +kernel
theorem dM_takes_97 : decode prog_7_method_28_code 97 = .ok (.getfield 56, 3) := by decide +kernel
theorem dM_takes_100 : decode prog_7_method_28_code 100 = .ok (.iconst 1, 1) := by decide +kernel
theorem dM_takes_101 : decode prog_7_method_28_code 101 = .ok (.isub, 1) := by decide +kernel
theorem dM_takes_102 : decode prog_7_method_28_code 102 = .ok (.if_icmp .ge 7, 3) := by decide +kernel
theorem dM_takes_105 : decode prog_7_method_28_code 105 = .ok (.iconst (-1), 1) := by decide +kernel
theorem dM_takes_106 : decode prog_7_method_28_code 106 = .ok (.goto 19, 3) := by decide +kernel
theorem dM_takes_109 : decode prog_7_method_28_code 109 = .ok (.aload_n 0, 1) := by decide +kernel
theorem dM_takes_110 : decode prog_7_method_28_code 110 = .ok (.iload_n 1, 1) := by decide +kernel
theorem dM_takes_111 : decode prog_7_method_28_code 111 = .ok (.aload_n 0, 1) := by decide +kernel
theorem dM_takes_112 : decode prog_7_method_28_code 112 = .ok (.getfield 141, 3) := by decide +kernel
theorem dM_takes_115 : decode prog_7_method_28_code 115 = .ok (.aload_n 0, 1) := by decide +kernel
theorem dM_takes_116 : decode prog_7_method_28_code 116 = .ok (.getfield 56, 3) := by decide +kernel
theorem dM_takes_119 : decode prog_7_method_28_code 119 = .ok (.isub, 1) := by decide +kernel
theorem dM_takes_120 : decode prog_7_method_28_code 120 = .ok (.iconst 1, 1) := by decide +kernel
theorem dM_takes_121 : decode prog_7_method_28_code 121 = .ok (.iadd, 1) := by decide +kernel
theorem dM_takes_122 : decode prog_7_method_28_code 122 = .ok (.invokevirtual 150, 3) := by decide +kernel
theorem dM_takes_125 : decode prog_7_method_28_code 125 = .ok (.ireturn, 1) := by decide +kernel
theorem dM_takes_126 : decode prog_7_method_28_code 126 = .ok (.iload_n 3, 1) := by decide +kernel
theorem dM_takes_127 : decode prog_7_method_28_code 127 = .ok (.ifCond .eq 57, 3) := by decide +kernel
theorem dM_takes_130 : decode prog_7_method_28_code 130 = .ok (.aload_n 0, 1) := by decide +kernel
theorem dM_takes_131 : decode prog_7_method_28_code 131 = .ok (.aload_n 0, 1) := by decide +kernel
theorem dM_takes_132 : decode prog_7_method_28_code 132 = .ok (.iload_n 1, 1) := by decide +kernel
theorem dM_takes_133 : decode prog_7_method_28_code 133 = .ok (.aload_n 0, 1) := by decide +kernel
theorem dM_takes_134 : decode prog_7_method_28_code 134 = .ok (.getfield 141, 3) := by decide +kernel
theorem dM_takes_137 : decode prog_7_method_28_code 137 = .ok (.invokevirtual 153, 3) := by decide +kernel
theorem dM_takes_140 : decode prog_7_method_28_code 140 = .ok (.iload_n 2, 1) := by decide +kernel
theorem dM_takes_141 : decode prog_7_method_28_code 141 = .ok (.ifCond .eq 7, 3) := by decide +kernel
theorem dM_takes_144 : decode prog_7_method_28_code 144 = .ok (.iconst 1, 1) := by decide +kernel
theorem dM_takes_145 : decode prog_7_method_28_code 145 = .ok (.goto 4, 3) := by decide +kernel
theorem dM_takes_148 : decode prog_7_method_28_code 148 = .ok (.iconst 0, 1) := by decide +kernel
theorem dM_takes_149 : decode prog_7_method_28_code 149 = .ok (.iadd, 1) := by decide +kernel
theorem dM_takes_150 : decode prog_7_method_28_code 150 = .ok (.putfield 141, 3) := by decide +kernel
theorem dM_takes_153 : decode prog_7_method_28_code 153 = .ok (.aload_n 0, 1) := by decide +kernel
theorem dM_takes_154 : decode prog_7_method_28_code 154 = .ok (.iload_n 1, 1) := by decide +kernel
theorem dM_takes_155 : decode prog_7_method_28_code 155 = .ok (.aload_n 0, 1) := by decide +kernel
theorem dM_takes_156 : decode prog_7_method_28_code 156 = .ok (.getfield 141, 3) := by decide +kernel
theorem dM_takes_159 : decode prog_7_method_28_code 159 = .ok (.invokevirtual 101, 3) := by decide +kernel
theorem dM_takes_162 : decode prog_7_method_28_code 162 = .ok (.ifCond .ge 7, 3) := by decide +kernel
theorem dM_takes_165 : decode prog_7_method_28_code 165 = .ok (.iconst (-1), 1) := by decide +kernel
theorem dM_takes_166 : decode prog_7_method_28_code 166 = .ok (.goto 17, 3) := by decide +kernel
theorem dM_takes_169 : decode prog_7_method_28_code 169 = .ok (.aload_n 0, 1) := by decide +kernel
theorem dM_takes_170 : decode prog_7_method_28_code 170 = .ok (.iload_n 1, 1) := by decide +kernel
theorem dM_takes_171 : decode prog_7_method_28_code 171 = .ok (.aload_n 0, 1) := by decide +kernel
theorem dM_takes_172 : decode prog_7_method_28_code 172 = .ok (.iload_n 1, 1) := by decide +kernel
theorem dM_takes_173 : decode prog_7_method_28_code 173 = .ok (.aload_n 0, 1) := by decide +kernel
theorem dM_takes_174 : decode prog_7_method_28_code 174 = .ok (.getfield 141, 3) := by decide +kernel
theorem dM_takes_177 : decode prog_7_method_28_code 177 = .ok (.invokevirtual 101, 3) := by decide +kernel
theorem dM_takes_180 : decode prog_7_method_28_code 180 = .ok (.invokevirtual 150, 3) := by decide +kernel
theorem dM_takes_183 : decode prog_7_method_28_code 183 = .ok (.ireturn, 1) := by decide +kernel
theorem dM_takes_184 : decode prog_7_method_28_code 184 = .ok (.aload_n 0, 1) := by decide +kernel
theorem dM_takes_185 : decode prog_7_method_28_code 185 = .ok (.iconst 2, 1) := by decide +kernel
theorem dM_takes_186 : decode prog_7_method_28_code 186 = .ok (.aload_n 0, 1) := by decide +kernel
theorem dM_takes_187 : decode prog_7_method_28_code 187 = .ok (.getfield 147, 3) := by decide +kernel
theorem dM_takes_190 : decode prog_7_method_28_code 190 = .ok (.imul, 1) := by decide +kernel
theorem dM_takes_191 : decode prog_7_method_28_code 191 = .ok (.iload_n 2, 1) := by decide +kernel
theorem dM_takes_192 : decode prog_7_method_28_code 192 = .ok (.ifCond .eq 7, 3) := by decide +kernel
theorem dM_takes_195 : decode prog_7_method_28_code 195 = .ok (.iconst 1, 1) := by decide +kernel
theorem dM_takes_196 : decode prog_7_method_28_code 196 = .ok (.goto 4, 3) := by decide +kernel
theorem dM_takes_199 : decode prog_7_method_28_code 199 = .ok (.iconst 0, 1) := by decide +kernel
theorem dM_takes_200 : decode prog_7_method_28_code 200 = .ok (.iadd, 1) := by decide +kernel
theorem dM_takes_201 : decode prog_7_method_28_code 201 = .ok (.putfield 147, 3) := by decide +kernel
theorem dM_takes_204 : decode prog_7_method_28_code 204 = .ok (.aload_n 0, 1) := by decide +kernel
theorem dM_takes_205 : decode prog_7_method_28_code 205 = .ok (.dup, 1) := by decide +kernel
theorem dM_takes_206 : decode prog_7_method_28_code 206 = .ok (.getfield 144, 3) := by decide +kernel
theorem dM_takes_209 : decode prog_7_method_28_code 209 = .ok (.iconst 1, 1) := by decide +kernel
theorem dM_takes_210 : decode prog_7_method_28_code 210 = .ok (.iadd, 1) := by decide +kernel
theorem dM_takes_211 : decode prog_7_method_28_code 211 = .ok (.putfield 144, 3) := by decide +kernel
theorem dM_takes_214 : decode prog_7_method_28_code 214 = .ok (.aload_n 0, 1) := by decide +kernel
theorem dM_takes_215 : decode prog_7_method_28_code 215 = .ok (.getfield 144, 3) := by decide +kernel
theorem dM_takes_218 : decode prog_7_method_28_code 218 = .ok (.aload_n 0, 1) := by decide +kernel
theorem dM_takes_219 : decode prog_7_method_28_code 219 = .ok (.getfield 60, 3) := by decide +kernel
theorem dM_takes_222 : decode prog_7_method_28_code 222 = .ok (.if_icmp .ge 5, 3) := by decide +kernel
theorem dM_takes_225 : decode prog_7_method_28_code 225 = .ok (.iconst (-1), 1) := by decide +kernel
theorem dM_takes_226 : decode prog_7_method_28_code 226 = .ok (.ireturn, 1) := by decide +kernel
theorem dM_takes_227 : decode prog_7_method_28_code 227 = .ok (.aload_n 0, 1) := by decide +kernel
theorem dM_takes_228 : decode prog_7_method_28_code 228 = .ok (.getfield 147, 3) := by decide +kernel
theorem dM_takes_231 : decode prog_7_method_28_code 231 = .ok (.aload_n 0, 1) := by decide +kernel
theorem dM_takes_232 : decode prog_7_method_28_code 232 = .ok (.getfield 56, 3) := by decide +kernel
theorem dM_takes_235 : decode prog_7_method_28_code 235 = .ok (.if_icmp .ge 15, 3) := by decide +kernel
theorem dM_takes_238 : decode prog_7_method_28_code 238 = .ok (.aload_n 0, 1) := by decide +kernel
theorem dM_takes_239 : decode prog_7_method_28_code 239 = .ok (.iload_n 1, 1) := by decide +kernel
theorem dM_takes_240 : decode prog_7_method_28_code 240 = .ok (.aload_n 0, 1) := by decide +kernel
theorem dM_takes_241 : decode prog_7_method_28_code 241 = .ok (.getfield 147, 3) := by decide +kernel
theorem dM_takes_244 : decode prog_7_method_28_code 244 = .ok (.invokevirtual 121, 3) := by decide +kernel
theorem dM_takes_247 : decode prog_7_method_28_code 247 = .ok (.ifCond .eq 11, 3) := by decide +kernel
theorem dM_takes_250 : decode prog_7_method_28_code 250 = .ok (.aload_n 0, 1) := by decide +kernel
theorem dM_takes_251 : decode prog_7_method_28_code 251 = .ok (.iconst (-1), 1) := by decide +kernel
theorem dM_takes_252 : decode prog_7_method_28_code 252 = .ok (.putfield 66, 3) := by decide +kernel
theorem dM_takes_255 : decode prog_7_method_28_code 255 = .ok (.bipush (-6), 2) := by decide +kernel
theorem dM_takes_257 : decode prog_7_method_28_code 257 = .ok (.ireturn, 1) := by decide +kernel
theorem dM_takes_258 : decode prog_7_method_28_code 258 = .ok (.aload_n 0, 1) := by decide +kernel
theorem dM_takes_259 : decode prog_7_method_28_code 259 = .ok (.iload_n 1, 1) := by decide +kernel
theorem dM_takes_260 : decode prog_7_method_28_code 260 = .ok (.aload_n 0, 1) := by decide +kernel
theorem dM_takes_261 : decode prog_7_method_28_code 261 = .ok (.getfield 147, 3) := by decide +kernel
theorem dM_takes_264 : decode prog_7_method_28_code 264 = .ok (.invokevirtual 150, 3) := by decide +kernel
theorem dM_takes_267 : decode prog_7_method_28_code 267 = .ok (.ireturn, 1) := by decide +kernel
def FM_takes (h0 : Hp) (a0 : Nat) (p1 : Int32) (p2 : Int32) : Option (Hp × Int32) :=
  gI h0 a0 5 16 (fun x1 =>
  jn (fun (h2 : Hp) =>
  gR h2 a0 5 3 (fun a4 =>
  ldI h2 a4 0 p1 (fun x5 =>
  jn (fun (y6 : Int32) =>
  jn (if y6 = 0 then
    (gI h2 a0 5 19 (fun x9 =>
    jn (fun (y10 : Int32) (y11 : Int32) (b12 : Nat) =>
    pF h2 b12 5 19 (.int (y11 + y10)) (fun h14 =>
    gI h14 a0 5 18 (fun x15 =>
    pF h14 a0 5 18 (.int (x15 + 1)) (fun h16 =>
    gI h16 a0 5 18 (fun x17 =>
    gI h16 a0 5 1 (fun x18 =>
    if x18 ≤ x17 then
      (gI h16 a0 5 19 (fun x19 =>
      gI h16 a0 5 0 (fun x20 =>
      jn (pF h16 a0 5 16 (.int (-1)) (fun h22 =>
      some (h22, (-6))))
      (fun (j21 : Option (Hp × Int32)) =>
      if x20 ≤ x19 then
        (j21)
      else
        (gI h16 a0 5 19 (fun x23 =>
        gd (isO h16 a0 5 = true) ((FM_isKnown h16 a0 p1 x23).bind (fun r25 =>
        if r25 = 0 then
          (gI h16 a0 5 19 (fun x26 =>
          gd (isO h16 a0 5 = true) ((FM_ends h16 a0 p1 x26).bind (fun r28 =>
          some (r28.1, r28.2)))))
        else
          (j21)))))))))
    else
      (some (h16, (-1)))))))))
    (fun (j13 : Int32 → Int32 → Nat → Option (Hp × Int32)) =>
    if p2 = 0 then
      (j13 0 (2 * x9) a0)
    else
      (j13 1 (2 * x9) a0))))
  else
    (gI h2 a0 5 17 (fun x29 =>
    gd (isO h2 a0 5 = true) ((FM_below h2 a0 p1 x29).bind (fun r31 =>
    jn (fun (y32 : Int32) (y33 : Int32) (b34 : Nat) =>
    pF h2 b34 5 17 (.int (y33 + y32)) (fun h36 =>
    gI h36 a0 5 17 (fun x37 =>
    gd (isO h36 a0 5 = true) ((FM_signAt h36 a0 p1 x37).bind (fun r39 =>
    jn (fun (h40 : Hp) (y41 : Int32) =>
    some (h40, y41))
    (fun (j42 : Hp → Int32 → Option (Hp × Int32)) =>
    if 0 ≤ r39 then
      (gI h36 a0 5 17 (fun x43 =>
      gd (isO h36 a0 5 = true) ((FM_signAt h36 a0 p1 x43).bind (fun r45 =>
      gd (isO h36 a0 5 = true) ((FM_ends h36 a0 p1 r45).bind (fun r47 =>
      j42 r47.1 r47.2))))))
    else
      (j42 h36 (-1))))))))
    (fun (j35 : Int32 → Int32 → Nat → Option (Hp × Int32)) =>
    if p2 = 0 then
      (j35 0 r31 a0)
    else
      (j35 1 r31 a0)))))))
  (fun (j8 : Option (Hp × Int32)) =>
  if y6 = 0 then
    (j8)
  else
    (gR h2 a0 5 3 (fun a48 =>
    ldI h2 a48 0 p1 (fun x49 =>
    if x49 = 1 then
      (gI h2 a0 5 17 (fun x50 =>
      gd (isO h2 a0 5 = true) ((FM_child h2 a0 p1 x50 p2).bind (fun r52 =>
      pF h2 a0 5 17 (.int r52) (fun h53 =>
      gI h53 a0 5 17 (fun x54 =>
      gI h53 a0 5 0 (fun x55 =>
      jn (fun (h56 : Hp) (y57 : Int32) =>
      some (h56, y57))
      (fun (j58 : Hp → Int32 → Option (Hp × Int32)) =>
      if (x55 - 1) ≤ x54 then
        (gI h53 a0 5 17 (fun x59 =>
        gI h53 a0 5 0 (fun x60 =>
        gd (isO h53 a0 5 = true) ((FM_ends h53 a0 p1 ((x59 - x60) + 1)).bind (fun r62 =>
        j58 r62.1 r62.2)))))
      else
        (j58 h53 (-1))))))))))
    else
      (j8))))))
  (fun (j7 : Int32 → Option (Hp × Int32)) =>
  jn (j7 1)
  (fun (j63 : Option (Hp × Int32)) =>
  if x5 = 1 then
    (j63)
  else
    (gI h2 a0 5 18 (fun x64 =>
    jn (j7 0)
    (fun (j65 : Option (Hp × Int32)) =>
    if x64 = 0 then
      (gI h2 a0 5 17 (fun x66 =>
      gd (isO h2 a0 5 = true) ((FM_signAt h2 a0 p1 x66).bind (fun r68 =>
      if r68 = (-1) then
        (j63)
      else
        (j65)))))
    else
      (j65)))))))))
  (fun (j3 : Hp → Option (Hp × Int32)) =>
  if x1 = (-1) then
    (pF h0 a0 5 16 (.int p1) (fun h69 =>
    pF h69 a0 5 17 (.int 0) (fun h70 =>
    pF h70 a0 5 18 (.int 0) (fun h71 =>
    pF h71 a0 5 19 (.int 0) (fun h72 =>
    j3 h72)))))
  else
    (j3 h0)))
set_option maxRecDepth 100000 in
set_option maxHeartbeats 4000000 in
theorem mM_takes (l : Launch) (h0 : Hp) (z0 : Nat) (a0 : Nat) (p1 : Int32) (p2 : Int32) (r : (Hp × Int32)) (hr : FM_takes h0 a0 p1 p2 = some r) : vM False l yM_takes (Cond.code yM_takes prog_7_method_28_code 4 (some (.int)) :: gW) 5 [.ref a0, .int p1, .int p2] h0 z0 r.1 z0 (some (.int r.2)) 0 0 := by
  refine vM.of (by decide) rfl (Nat.le_of_ble_eq_true rfl) ?_
  intro p e s m args below meth c D dA C hin2
  refine (?_ : vO p l e (vR 5 0 0) s m args below meth c D dA (vA h0 z0) 4 False (fun r : (Hp × Int32) => MQ below (vQc False h0 z0 D dA r.1 z0 (some (.int r.2))) args s 0 0 (vAr False h0 z0)) 0 0 h0 z0 [(0, .ref a0), (1, .int p1), (2, .int p2)] 0 [] (FM_takes h0 a0 p1 p2)) r hr
  obtain ⟨Q, hQ⟩ : ∃ Q : (Hp × Int32) → State → Prop, Q = (fun r : (Hp × Int32) => MQ below (vQc False h0 z0 D dA r.1 z0 (some (.int r.2))) args s 0 0 (vAr False h0 z0)) := ⟨_, rfl⟩
  rw [← hQ]
  unfold FM_takes
  refine v_aload_n C dM_takes_0 rfl 0 rfl ?_
  refine v_getI C v_cl5 (by decide) in_5 rfl w_625 dM_takes_1 (fun x1 => ?_)
  refine v_iconst (v := (-1)) C dM_takes_4 (by decide) ?_
  refine v_jn (fun (j : Hp → Option (Hp × Int32)) => ∀ (h2 : Hp), vO p l e (vR 5 0 0) s m args below meth c D dA (vA h0 z0) 4 False Q 0 0 h2 z0 [(0, .ref a0), (1, .int p1), (2, .int p2)] 28 [] (j h2)) ?_ (fun j3 Hj3 => ?_)
  · intro h2
    refine v_aload_n C dM_takes_28 rfl 0 rfl ?_
    refine v_getR C v_cl5 (by decide) in_5 rfl w_612 dM_takes_29 (fun a4 => ?_)
    refine v_iload_n C dM_takes_32 rfl 1 rfl ?_
    refine v_iald C rfl dM_takes_33 (fun x5 => ?_)
    refine v_iconst (v := 1) C dM_takes_34 (by decide) ?_
    refine v_jn (fun (j : Int32 → Option (Hp × Int32)) => ∀ (y6 : Int32), vO p l e (vR 5 0 0) s m args below meth c D dA (vA h0 z0) 4 False Q 0 0 h2 z0 [(0, .ref a0), (1, .int p1), (2, .int p2)] 63 [.int y6] (j y6)) ?_ (fun j7 Hj7 => ?_)
    · intro y6
      refine v_istore_n (lv' := [(0, .ref a0), (1, .int p1), (2, .int p2), (3, .int y6)]) C dM_takes_63 rfl (by decide) [1, 2, 3, 0] rfl ?_
      refine v_iload_n C dM_takes_64 rfl 3 rfl ?_
      refine v_jn (fun (j : Option (Hp × Int32)) => vO p l e (vR 5 0 0) s m args below meth c D dA (vA h0 z0) 4 False Q 0 0 h2 z0 [(0, .ref a0), (1, .int p1), (2, .int p2), (3, .int y6)] 126 [] j) ?_ (fun j8 Hj8 => ?_)
      · refine v_iload_n C dM_takes_126 rfl 3 rfl ?_
        refine v_if_eq (tgt := 184) C dM_takes_127 (by decide) ?_ ?_
        · refine v_aload_n C dM_takes_184 rfl 0 rfl ?_
          refine v_iconst (v := 2) C dM_takes_185 (by decide) ?_
          refine v_aload_n C dM_takes_186 rfl 0 rfl ?_
          refine v_getI C v_cl5 (by decide) in_5 rfl w_628 dM_takes_187 (fun x9 => ?_)
          refine v_imul C dM_takes_190 ?_
          refine v_iload_n C dM_takes_191 rfl 2 rfl ?_
          refine v_jn (fun (j : Int32 → Int32 → Nat → Option (Hp × Int32)) => ∀ (y10 : Int32), ∀ (y11 : Int32), ∀ (b12 : Nat), vO p l e (vR 5 0 0) s m args below meth c D dA (vA h0 z0) 4 False Q 0 0 h2 z0 [(0, .ref a0), (1, .int p1)] 200 [.int y10, .int y11, .ref b12] (j y10 y11 b12)) ?_ (fun j13 Hj13 => ?_)
          · intro y10 y11 b12
            refine v_iadd C dM_takes_200 ?_
            refine v_put C v_cl5 (by decide) in_5 ty_5 ty_5_ok nm_5 rfl w_628 rfl (ty := .int) (by decide +kernel) rfl rfl dM_takes_201 (fun h14 => ?_)
            refine v_aload_n C dM_takes_204 rfl 0 rfl ?_
            refine v_dup C dM_takes_205 rfl ?_
            refine v_getI C v_cl5 (by decide) in_5 rfl w_627 dM_takes_206 (fun x15 => ?_)
            refine v_iconst (v := 1) C dM_takes_209 (by decide) ?_
            refine v_iadd C dM_takes_210 ?_
            refine v_put C v_cl5 (by decide) in_5 ty_5 ty_5_ok nm_5 rfl w_627 rfl (ty := .int) (by decide +kernel) rfl rfl dM_takes_211 (fun h16 => ?_)
            refine v_aload_n C dM_takes_214 rfl 0 rfl ?_
            refine v_getI C v_cl5 (by decide) in_5 rfl w_627 dM_takes_215 (fun x17 => ?_)
            refine v_aload_n C dM_takes_218 rfl 0 rfl ?_
            refine v_getI C v_cl5 (by decide) in_5 rfl w_610 dM_takes_219 (fun x18 => ?_)
            refine v_icmp_ge (tgt := 227) C dM_takes_222 (by decide) ?_ ?_
            · refine v_aload_n C dM_takes_227 rfl 0 rfl ?_
              refine v_getI C v_cl5 (by decide) in_5 rfl w_628 dM_takes_228 (fun x19 => ?_)
              refine v_aload_n C dM_takes_231 rfl 0 rfl ?_
              refine v_getI C v_cl5 (by decide) in_5 rfl w_609 dM_takes_232 (fun x20 => ?_)
              refine v_jn (fun (j : Option (Hp × Int32)) => vO p l e (vR 5 0 0) s m args below meth c D dA (vA h0 z0) 4 False Q 0 0 h16 z0 [(0, .ref a0)] 250 [] j) ?_ (fun j21 Hj21 => ?_)
              · refine v_aload_n C dM_takes_250 rfl 0 rfl ?_
                refine v_iconst (v := (-1)) C dM_takes_251 (by decide) ?_
                refine v_put C v_cl5 (by decide) in_5 ty_5 ty_5_ok nm_5 rfl w_625 rfl (ty := .int) (by decide +kernel) rfl rfl dM_takes_252 (fun h22 => ?_)
                refine v_bipush (v := (-6)) C dM_takes_255 (by decide) ?_
                exact v_iret C dM_takes_257 (by rw [hQ])
              · refine v_icmp_ge (tgt := 250) C dM_takes_235 (by decide) ?_ ?_
                · refine v_lv (lv' := [(0, .ref a0)]) [0] rfl ?_
                  exact Hj21
                · refine v_aload_n C dM_takes_238 rfl 0 rfl ?_
                  refine v_iload_n C dM_takes_239 rfl 1 rfl ?_
                  refine v_aload_n C dM_takes_240 rfl 0 rfl ?_
                  refine v_getI C v_cl5 (by decide) in_5 rfl w_628 dM_takes_241 (fun x23 => ?_)
                  refine v_gd fun hO24 => ?_
                  refine v_bind fun r25 hr25 => ?_
                  refine v_callV0 (N := 2) (As := [.int p1, .int x23]) (st := []) C (fun _ => trivial) (mM_isKnown l h16 z0 a0 p1 x23 r25 hr25) rfl w_719 w_53 (by decide +kernel) ⟨Nat.le_of_ble_eq_true rfl, Nat.le_of_ble_eq_true rfl⟩ rfl rfl (Nat.le_of_ble_eq_true rfl) ⟨Nat.zero_le _, Nat.zero_le _⟩ w_716 w_718 w_27 v_cl5 rfl hO24 dM_takes_244 ?_
                  refine v_if_eq (tgt := 258) C dM_takes_247 (by decide) ?_ ?_
                  · refine v_aload_n C dM_takes_258 rfl 0 rfl ?_
                    refine v_iload_n C dM_takes_259 rfl 1 rfl ?_
                    refine v_aload_n C dM_takes_260 rfl 0 rfl ?_
                    refine v_getI C v_cl5 (by decide) in_5 rfl w_628 dM_takes_261 (fun x26 => ?_)
                    refine v_gd fun hO27 => ?_
                    refine v_bind fun r28 hr28 => ?_
                    refine v_callV0 (N := 2) (As := [.int p1, .int x26]) (st := []) C (fun f => f.elim) (mM_ends l h16 z0 a0 p1 x26 r28 hr28) rfl w_791 w_53 (by decide +kernel) ⟨Nat.le_of_ble_eq_true rfl, Nat.le_of_ble_eq_true rfl⟩ rfl rfl (Nat.le_of_ble_eq_true rfl) ⟨Nat.zero_le _, Nat.zero_le _⟩ w_788 w_790 w_41 v_cl5 rfl hO27 dM_takes_264 ?_
                    exact v_iret C dM_takes_267 (by rw [hQ])
                  · refine v_lv (lv' := [(0, .ref a0)]) [0] rfl ?_
                    exact Hj21
            · refine v_iconst (v := (-1)) C dM_takes_225 (by decide) ?_
              exact v_iret C dM_takes_226 (by rw [hQ])
          · refine v_if_eq (tgt := 199) C dM_takes_192 (by decide) ?_ ?_
            · refine v_iconst (v := 0) C dM_takes_199 (by decide) ?_
              refine v_lv (lv' := [(0, .ref a0), (1, .int p1)]) [0, 1] rfl ?_
              exact Hj13 0 (2 * x9) a0
            · refine v_iconst (v := 1) C dM_takes_195 (by decide) ?_
              refine v_goto (tgt := 200) C dM_takes_196 (by decide) ?_
              refine v_lv (lv' := [(0, .ref a0), (1, .int p1)]) [0, 1] rfl ?_
              exact Hj13 1 (2 * x9) a0
        · refine v_aload_n C dM_takes_130 rfl 0 rfl ?_
          refine v_aload_n C dM_takes_131 rfl 0 rfl ?_
          refine v_iload_n C dM_takes_132 rfl 1 rfl ?_
          refine v_aload_n C dM_takes_133 rfl 0 rfl ?_
          refine v_getI C v_cl5 (by decide) in_5 rfl w_626 dM_takes_134 (fun x29 => ?_)
          refine v_gd fun hO30 => ?_
          refine v_bind fun r31 hr31 => ?_
          refine v_callV0 (N := 2) (As := [.int p1, .int x29]) (st := [.ref a0]) C (fun _ => trivial) (mM_below l h2 z0 a0 p1 x29 r31 hr31) rfl w_795 w_53 (by decide +kernel) ⟨Nat.le_of_ble_eq_true rfl, Nat.le_of_ble_eq_true rfl⟩ rfl rfl (Nat.le_of_ble_eq_true rfl) ⟨Nat.zero_le _, Nat.zero_le _⟩ w_792 w_794 w_42 v_cl5 rfl hO30 dM_takes_137 ?_
          refine v_iload_n C dM_takes_140 rfl 2 rfl ?_
          refine v_jn (fun (j : Int32 → Int32 → Nat → Option (Hp × Int32)) => ∀ (y32 : Int32), ∀ (y33 : Int32), ∀ (b34 : Nat), vO p l e (vR 5 0 0) s m args below meth c D dA (vA h0 z0) 4 False Q 0 0 h2 z0 [(0, .ref a0), (1, .int p1)] 149 [.int y32, .int y33, .ref b34] (j y32 y33 b34)) ?_ (fun j35 Hj35 => ?_)
          · intro y32 y33 b34
            refine v_iadd C dM_takes_149 ?_
            refine v_put C v_cl5 (by decide) in_5 ty_5 ty_5_ok nm_5 rfl w_626 rfl (ty := .int) (by decide +kernel) rfl rfl dM_takes_150 (fun h36 => ?_)
            refine v_aload_n C dM_takes_153 rfl 0 rfl ?_
            refine v_iload_n C dM_takes_154 rfl 1 rfl ?_
            refine v_aload_n C dM_takes_155 rfl 0 rfl ?_
            refine v_getI C v_cl5 (by decide) in_5 rfl w_626 dM_takes_156 (fun x37 => ?_)
            refine v_gd fun hO38 => ?_
            refine v_bind fun r39 hr39 => ?_
            refine v_callV0 (N := 2) (As := [.int p1, .int x37]) (st := []) C (fun _ => trivial) (mM_signAt l h36 z0 a0 p1 x37 r39 hr39) rfl w_759 w_53 (by decide +kernel) ⟨Nat.le_of_ble_eq_true rfl, Nat.le_of_ble_eq_true rfl⟩ rfl rfl (Nat.le_of_ble_eq_true rfl) ⟨Nat.zero_le _, Nat.zero_le _⟩ w_756 w_758 w_37 v_cl5 rfl hO38 dM_takes_159 ?_
            refine v_jn (fun (j : Hp → Int32 → Option (Hp × Int32)) => ∀ (h40 : Hp), ∀ (y41 : Int32), vO p l e (vR 5 0 0) s m args below meth c D dA (vA h0 z0) 4 False Q 0 0 h40 z0 [] 183 [.int y41] (j h40 y41)) ?_ (fun j42 Hj42 => ?_)
            · intro h40 y41
              exact v_iret C dM_takes_183 (by rw [hQ])
            · refine v_if_ge (tgt := 169) C dM_takes_162 (by decide) ?_ ?_
              · refine v_aload_n C dM_takes_169 rfl 0 rfl ?_
                refine v_iload_n C dM_takes_170 rfl 1 rfl ?_
                refine v_aload_n C dM_takes_171 rfl 0 rfl ?_
                refine v_iload_n C dM_takes_172 rfl 1 rfl ?_
                refine v_aload_n C dM_takes_173 rfl 0 rfl ?_
                refine v_getI C v_cl5 (by decide) in_5 rfl w_626 dM_takes_174 (fun x43 => ?_)
                refine v_gd fun hO44 => ?_
                refine v_bind fun r45 hr45 => ?_
                refine v_callV0 (N := 2) (As := [.int p1, .int x43]) (st := [.int p1, .ref a0]) C (fun _ => trivial) (mM_signAt l h36 z0 a0 p1 x43 r45 hr45) rfl w_759 w_53 (by decide +kernel) ⟨Nat.le_of_ble_eq_true rfl, Nat.le_of_ble_eq_true rfl⟩ rfl rfl (Nat.le_of_ble_eq_true rfl) ⟨Nat.zero_le _, Nat.zero_le _⟩ w_756 w_758 w_37 v_cl5 rfl hO44 dM_takes_177 ?_
                refine v_gd fun hO46 => ?_
                refine v_bind fun r47 hr47 => ?_
                refine v_callV0 (N := 2) (As := [.int p1, .int r45]) (st := []) C (fun f => f.elim) (mM_ends l h36 z0 a0 p1 r45 r47 hr47) rfl w_791 w_53 (by decide +kernel) ⟨Nat.le_of_ble_eq_true rfl, Nat.le_of_ble_eq_true rfl⟩ rfl rfl (Nat.le_of_ble_eq_true rfl) ⟨Nat.zero_le _, Nat.zero_le _⟩ w_788 w_790 w_41 v_cl5 rfl hO46 dM_takes_180 ?_
                refine v_lv (lv' := []) [] rfl ?_
                exact Hj42 r47.1 r47.2
              · refine v_iconst (v := (-1)) C dM_takes_165 (by decide) ?_
                refine v_goto (tgt := 183) C dM_takes_166 (by decide) ?_
                refine v_lv (lv' := []) [] rfl ?_
                exact Hj42 h36 (-1)
          · refine v_if_eq (tgt := 148) C dM_takes_141 (by decide) ?_ ?_
            · refine v_iconst (v := 0) C dM_takes_148 (by decide) ?_
              refine v_lv (lv' := [(0, .ref a0), (1, .int p1)]) [0, 1] rfl ?_
              exact Hj35 0 r31 a0
            · refine v_iconst (v := 1) C dM_takes_144 (by decide) ?_
              refine v_goto (tgt := 149) C dM_takes_145 (by decide) ?_
              refine v_lv (lv' := [(0, .ref a0), (1, .int p1)]) [0, 1] rfl ?_
              exact Hj35 1 r31 a0
      · refine v_if_eq (tgt := 126) C dM_takes_65 (by decide) ?_ ?_
        · exact Hj8
        · refine v_aload_n C dM_takes_68 rfl 0 rfl ?_
          refine v_getR C v_cl5 (by decide) in_5 rfl w_612 dM_takes_69 (fun a48 => ?_)
          refine v_iload_n C dM_takes_72 rfl 1 rfl ?_
          refine v_iald C rfl dM_takes_73 (fun x49 => ?_)
          refine v_iconst (v := 1) C dM_takes_74 (by decide) ?_
          refine v_icmp_ne (tgt := 126) C dM_takes_75 (by decide) ?_ ?_
          · exact Hj8
          · refine v_aload_n C dM_takes_78 rfl 0 rfl ?_
            refine v_aload_n C dM_takes_79 rfl 0 rfl ?_
            refine v_iload_n C dM_takes_80 rfl 1 rfl ?_
            refine v_aload_n C dM_takes_81 rfl 0 rfl ?_
            refine v_getI C v_cl5 (by decide) in_5 rfl w_626 dM_takes_82 (fun x50 => ?_)
            refine v_iload_n C dM_takes_85 rfl 2 rfl ?_
            refine v_gd fun hO51 => ?_
            refine v_bind fun r52 hr52 => ?_
            refine v_callV0 (N := 3) (As := [.int p1, .int x50, .int p2]) (st := [.ref a0]) C (fun _ => trivial) (mM_child l h2 z0 a0 p1 x50 p2 r52 hr52) rfl w_767 w_53 (by decide +kernel) ⟨Nat.le_of_ble_eq_true rfl, Nat.le_of_ble_eq_true rfl⟩ rfl rfl (Nat.le_of_ble_eq_true rfl) ⟨Nat.zero_le _, Nat.zero_le _⟩ w_764 w_766 w_39 v_cl5 rfl hO51 dM_takes_86 ?_
            refine v_put C v_cl5 (by decide) in_5 ty_5 ty_5_ok nm_5 rfl w_626 rfl (ty := .int) (by decide +kernel) rfl rfl dM_takes_89 (fun h53 => ?_)
            refine v_aload_n C dM_takes_92 rfl 0 rfl ?_
            refine v_getI C v_cl5 (by decide) in_5 rfl w_626 dM_takes_93 (fun x54 => ?_)
            refine v_aload_n C dM_takes_96 rfl 0 rfl ?_
            refine v_getI C v_cl5 (by decide) in_5 rfl w_609 dM_takes_97 (fun x55 => ?_)
            refine v_iconst (v := 1) C dM_takes_100 (by decide) ?_
            refine v_isub C dM_takes_101 ?_
            refine v_jn (fun (j : Hp → Int32 → Option (Hp × Int32)) => ∀ (h56 : Hp), ∀ (y57 : Int32), vO p l e (vR 5 0 0) s m args below meth c D dA (vA h0 z0) 4 False Q 0 0 h56 z0 [] 125 [.int y57] (j h56 y57)) ?_ (fun j58 Hj58 => ?_)
            · intro h56 y57
              exact v_iret C dM_takes_125 (by rw [hQ])
            · refine v_icmp_ge (tgt := 109) C dM_takes_102 (by decide) ?_ ?_
              · refine v_aload_n C dM_takes_109 rfl 0 rfl ?_
                refine v_iload_n C dM_takes_110 rfl 1 rfl ?_
                refine v_aload_n C dM_takes_111 rfl 0 rfl ?_
                refine v_getI C v_cl5 (by decide) in_5 rfl w_626 dM_takes_112 (fun x59 => ?_)
                refine v_aload_n C dM_takes_115 rfl 0 rfl ?_
                refine v_getI C v_cl5 (by decide) in_5 rfl w_609 dM_takes_116 (fun x60 => ?_)
                refine v_isub C dM_takes_119 ?_
                refine v_iconst (v := 1) C dM_takes_120 (by decide) ?_
                refine v_iadd C dM_takes_121 ?_
                refine v_gd fun hO61 => ?_
                refine v_bind fun r62 hr62 => ?_
                refine v_callV0 (N := 2) (As := [.int p1, .int ((x59 - x60) + 1)]) (st := []) C (fun f => f.elim) (mM_ends l h53 z0 a0 p1 ((x59 - x60) + 1) r62 hr62) rfl w_791 w_53 (by decide +kernel) ⟨Nat.le_of_ble_eq_true rfl, Nat.le_of_ble_eq_true rfl⟩ rfl rfl (Nat.le_of_ble_eq_true rfl) ⟨Nat.zero_le _, Nat.zero_le _⟩ w_788 w_790 w_41 v_cl5 rfl hO61 dM_takes_122 ?_
                refine v_lv (lv' := []) [] rfl ?_
                exact Hj58 r62.1 r62.2
              · refine v_iconst (v := (-1)) C dM_takes_105 (by decide) ?_
                refine v_goto (tgt := 125) C dM_takes_106 (by decide) ?_
                refine v_lv (lv' := []) [] rfl ?_
                exact Hj58 h53 (-1)
    · refine v_jn (fun (j : Option (Hp × Int32)) => vO p l e (vR 5 0 0) s m args below meth c D dA (vA h0 z0) 4 False Q 0 0 h2 z0 [(0, .ref a0), (1, .int p1), (2, .int p2)] 58 [] j) ?_ (fun j63 Hj63 => ?_)
      · refine v_iconst (v := 1) C dM_takes_58 (by decide) ?_
        refine v_goto (tgt := 63) C dM_takes_59 (by decide) ?_
        exact Hj7 1
      · refine v_icmp_eq (tgt := 58) C dM_takes_35 (by decide) ?_ ?_
        · exact Hj63
        · refine v_aload_n C dM_takes_38 rfl 0 rfl ?_
          refine v_getI C v_cl5 (by decide) in_5 rfl w_627 dM_takes_39 (fun x64 => ?_)
          refine v_jn (fun (j : Option (Hp × Int32)) => vO p l e (vR 5 0 0) s m args below meth c D dA (vA h0 z0) 4 False Q 0 0 h2 z0 [(0, .ref a0), (1, .int p1), (2, .int p2)] 62 [] j) ?_ (fun j65 Hj65 => ?_)
          · refine v_iconst (v := 0) C dM_takes_62 (by decide) ?_
            exact Hj7 0
          · refine v_if_ne (tgt := 62) C dM_takes_42 (by decide) ?_ ?_
            · exact Hj65
            · refine v_aload_n C dM_takes_45 rfl 0 rfl ?_
              refine v_iload_n C dM_takes_46 rfl 1 rfl ?_
              refine v_aload_n C dM_takes_47 rfl 0 rfl ?_
              refine v_getI C v_cl5 (by decide) in_5 rfl w_626 dM_takes_48 (fun x66 => ?_)
              refine v_gd fun hO67 => ?_
              refine v_bind fun r68 hr68 => ?_
              refine v_callV0 (N := 2) (As := [.int p1, .int x66]) (st := []) C (fun _ => trivial) (mM_signAt l h2 z0 a0 p1 x66 r68 hr68) rfl w_759 w_53 (by decide +kernel) ⟨Nat.le_of_ble_eq_true rfl, Nat.le_of_ble_eq_true rfl⟩ rfl rfl (Nat.le_of_ble_eq_true rfl) ⟨Nat.zero_le _, Nat.zero_le _⟩ w_756 w_758 w_37 v_cl5 rfl hO67 dM_takes_51 ?_
              refine v_iconst (v := (-1)) C dM_takes_54 (by decide) ?_
              refine v_icmp_ne (tgt := 62) C dM_takes_55 (by decide) ?_ ?_
              · exact Hj65
              · exact Hj63
  · refine v_icmp_ne (tgt := 28) C dM_takes_5 (by decide) ?_ ?_
    · exact Hj3 h0
    · refine v_aload_n C dM_takes_8 rfl 0 rfl ?_
      refine v_iload_n C dM_takes_9 rfl 1 rfl ?_
      refine v_put C v_cl5 (by decide) in_5 ty_5 ty_5_ok nm_5 rfl w_625 rfl (ty := .int) (by decide +kernel) rfl rfl dM_takes_10 (fun h69 => ?_)
      refine v_aload_n C dM_takes_13 rfl 0 rfl ?_
      refine v_iconst (v := 0) C dM_takes_14 (by decide) ?_
      refine v_put C v_cl5 (by decide) in_5 ty_5 ty_5_ok nm_5 rfl w_626 rfl (ty := .int) (by decide +kernel) rfl rfl dM_takes_15 (fun h70 => ?_)
      refine v_aload_n C dM_takes_18 rfl 0 rfl ?_
      refine v_iconst (v := 0) C dM_takes_19 (by decide) ?_
      refine v_put C v_cl5 (by decide) in_5 ty_5 ty_5_ok nm_5 rfl w_627 rfl (ty := .int) (by decide +kernel) rfl rfl dM_takes_20 (fun h71 => ?_)
      refine v_aload_n C dM_takes_23 rfl 0 rfl ?_
      refine v_iconst (v := 0) C dM_takes_24 (by decide) ?_
      refine v_put C v_cl5 (by decide) in_5 ty_5 ty_5_ok nm_5 rfl w_628 rfl (ty := .int) (by decide +kernel) rfl rfl dM_takes_25 (fun h72 => ?_)
      exact Hj3 h72
theorem dM_get_0 : decode prog_7_method_30_code 0 = .ok (.aload_n 0, 1) := by decide +kernel
theorem dM_get_1 : decode prog_7_method_30_code 1 = .ok (.iconst 0, 1) := by decide +kernel
theorem dM_get_2 : decode prog_7_method_30_code 2 = .ok (.putfield 73, 3) := by decide +kernel
theorem dM_get_5 : decode prog_7_method_30_code 5 = .ok (.iload_n 1, 1) := by decide +kernel
theorem dM_get_6 : decode prog_7_method_30_code 6 = .ok (.iconst 0, 1) := by decide +kernel
theorem dM_get_7 : decode prog_7_method_30_code 7 = .ok (.iconst 3, 1) := by decide +kernel
theorem dM_get_8 : decode prog_7_method_30_code 8 = .ok (.invokestatic 76, 3) := by decide +kernel
theorem dM_get_11 : decode prog_7_method_30_code 11 = .ok (.ifCond .ne 6, 3) := by decide +kernel
theorem dM_get_14 : decode prog_7_method_30_code 14 = .ok (.bipush (-2), 2) := by decide +kernel
theorem dM_get_16 : decode prog_7_method_30_code 16 = .ok (.ireturn, 1) := by decide +kernel
theorem dM_get_17 : decode prog_7_method_30_code 17 = .ok (.aload_n 0, 1) := by decide +kernel
theorem dM_get_18 : decode prog_7_method_30_code 18 = .ok (.getfield 66, 3) := by decide +kernel
theorem dM_get_21 : decode prog_7_method_30_code 21 = .ok (.iconst (-1), 1) := by decide +kernel
theorem dM_get_22 : decode prog_7_method_30_code 22 = .ok (.if_icmp .eq 16, 3) := by decide +kernel
theorem dM_get_25 : decode prog_7_method_30_code 25 = .ok (.aload_n 0, 1) := by decide +kernel
theorem dM_get_26 : decode prog_7_method_30_code 26 = .ok (.getfield 66, 3) := by decide +kernel
theorem dM_get_29 : decode prog_7_method_30_code 29 = .ok (.iconst 4, 1) := by decide +kernel
theorem dM_get_30 : decode prog_7_method_30_code 30 = .ok (.iload_n 1, 1) := by decide +kernel
theorem dM_get_31 : decode prog_7_method_30_code 31 = .ok (.iadd, 1) := by decide +kernel
theorem dM_get_32 : decode prog_7_method_30_code 32 = .ok (.if_icmp .eq 6, 3) := by decide +kernel
theorem dM_get_35 : decode prog_7_method_30_code 35 = .ok (.bipush (-4), 2) := by decide +kernel
theorem dM_get_37 : decode prog_7_method_30_code 37 = .ok (.ireturn, 1) := by decide +kernel
theorem dM_get_38 : decode prog_7_method_30_code 38 = .ok (.aload_n 0, 1) := by decide +kernel
theorem dM_get_39 : decode prog_7_method_30_code 39 = .ok (.iconst 4, 1) := by decide +kernel
theorem dM_get_40 : decode prog_7_method_30_code 40 = .ok (.iload_n 1, 1) := by decide +kernel
theorem dM_get_41 : decode prog_7_method_30_code 41 = .ok (.iadd, 1) := by decide +kernel
theorem dM_get_42 : decode prog_7_method_30_code 42 = .ok (.iload_n 2, 1) := by decide +kernel
theorem dM_get_43 : decode prog_7_method_30_code 43 = .ok (.invokevirtual 156, 3) := by decide +kernel
theorem dM_get_46 : decode prog_7_method_30_code 46 = .ok (.ireturn, 1) := by decide +kernel
def FM_get (h0 : Hp) (a0 : Nat) (p1 : Int32) (p2 : Int32) : Option (Hp × Int32) :=
  pF h0 a0 5 20 (.int 0) (fun h1 =>
  (FM_isIn h1 p1 0 3).bind (fun r2 =>
  if r2 = 0 then
    (some (h1, (-2)))
  else
    (gI h1 a0 5 16 (fun x3 =>
    jn (gd (isO h1 a0 5 = true) ((FM_takes h1 a0 (4 + p1) p2).bind (fun r6 =>
    some (r6.1, r6.2))))
    (fun (j4 : Option (Hp × Int32)) =>
    if x3 = (-1) then
      (j4)
    else
      (gI h1 a0 5 16 (fun x7 =>
      if x7 = (4 + p1) then
        (j4)
      else
        (some (h1, (-4))))))))))
set_option maxRecDepth 100000 in
set_option maxHeartbeats 4000000 in
theorem mM_get (l : Launch) (h0 : Hp) (z0 : Nat) (a0 : Nat) (p1 : Int32) (p2 : Int32) (r : (Hp × Int32)) (hr : FM_get h0 a0 p1 p2 = some r) : vM False l yM_get (Cond.code yM_get prog_7_method_30_code 3 (some (.int)) :: gW) 6 [.ref a0, .int p1, .int p2] h0 z0 r.1 z0 (some (.int r.2)) 0 0 := by
  refine vM.of (by decide) rfl (Nat.le_of_ble_eq_true rfl) ?_
  intro p e s m args below meth c D dA C hin2
  refine (?_ : vO p l e (vR 6 0 0) s m args below meth c D dA (vA h0 z0) 3 False (fun r : (Hp × Int32) => MQ below (vQc False h0 z0 D dA r.1 z0 (some (.int r.2))) args s 0 0 (vAr False h0 z0)) 0 0 h0 z0 [(0, .ref a0), (1, .int p1), (2, .int p2)] 0 [] (FM_get h0 a0 p1 p2)) r hr
  obtain ⟨Q, hQ⟩ : ∃ Q : (Hp × Int32) → State → Prop, Q = (fun r : (Hp × Int32) => MQ below (vQc False h0 z0 D dA r.1 z0 (some (.int r.2))) args s 0 0 (vAr False h0 z0)) := ⟨_, rfl⟩
  rw [← hQ]
  unfold FM_get
  refine v_aload_n C dM_get_0 rfl 0 rfl ?_
  refine v_iconst (v := 0) C dM_get_1 (by decide) ?_
  refine v_put C v_cl5 (by decide) in_5 ty_5 ty_5_ok nm_5 rfl w_629 rfl (ty := .int) (by decide +kernel) rfl rfl dM_get_2 (fun h1 => ?_)
  refine v_iload_n C dM_get_5 rfl 1 rfl ?_
  refine v_iconst (v := 0) C dM_get_6 (by decide) ?_
  refine v_iconst (v := 3) C dM_get_7 (by decide) ?_
  refine v_bind fun r2 hr2 => ?_
  refine v_callS0 (N := 3) (As := [.int p1, .int 0, .int 3]) (st := []) C (fun _ => trivial) (mM_isIn l h1 z0 p1 0 3 r2 hr2) rfl w_698 w_53 (by decide +kernel) ⟨Nat.le_of_ble_eq_true rfl, Nat.le_of_ble_eq_true rfl⟩ rfl rfl (Nat.le_of_ble_eq_true rfl) ⟨Nat.zero_le _, Nat.zero_le _⟩ w_696 w_697 dM_get_8 ?_
  refine v_if_ne (tgt := 17) C dM_get_11 (by decide) ?_ ?_
  · refine v_aload_n C dM_get_17 rfl 0 rfl ?_
    refine v_getI C v_cl5 (by decide) in_5 rfl w_625 dM_get_18 (fun x3 => ?_)
    refine v_iconst (v := (-1)) C dM_get_21 (by decide) ?_
    refine v_jn (fun (j : Option (Hp × Int32)) => vO p l e (vR 6 0 0) s m args below meth c D dA (vA h0 z0) 3 False Q 0 0 h1 z0 [(0, .ref a0), (1, .int p1), (2, .int p2)] 38 [] j) ?_ (fun j4 Hj4 => ?_)
    · refine v_aload_n C dM_get_38 rfl 0 rfl ?_
      refine v_iconst (v := 4) C dM_get_39 (by decide) ?_
      refine v_iload_n C dM_get_40 rfl 1 rfl ?_
      refine v_iadd C dM_get_41 ?_
      refine v_iload_n C dM_get_42 rfl 2 rfl ?_
      refine v_gd fun hO5 => ?_
      refine v_bind fun r6 hr6 => ?_
      refine v_callV0 (N := 2) (As := [.int (4 + p1), .int p2]) (st := []) C (fun f => f.elim) (mM_takes l h1 z0 a0 (4 + p1) p2 r6 hr6) rfl w_787 w_53 (by decide +kernel) ⟨Nat.le_of_ble_eq_true rfl, Nat.le_of_ble_eq_true rfl⟩ rfl rfl (Nat.le_of_ble_eq_true rfl) ⟨Nat.zero_le _, Nat.zero_le _⟩ w_784 w_786 w_40 v_cl5 rfl hO5 dM_get_43 ?_
      exact v_iret C dM_get_46 (by rw [hQ])
    · refine v_icmp_eq (tgt := 38) C dM_get_22 (by decide) ?_ ?_
      · exact Hj4
      · refine v_aload_n C dM_get_25 rfl 0 rfl ?_
        refine v_getI C v_cl5 (by decide) in_5 rfl w_625 dM_get_26 (fun x7 => ?_)
        refine v_iconst (v := 4) C dM_get_29 (by decide) ?_
        refine v_iload_n C dM_get_30 rfl 1 rfl ?_
        refine v_iadd C dM_get_31 ?_
        refine v_icmp_eq (tgt := 38) C dM_get_32 (by decide) ?_ ?_
        · exact Hj4
        · refine v_bipush (v := (-4)) C dM_get_35 (by decide) ?_
          exact v_iret C dM_get_37 (by rw [hQ])
  · refine v_bipush (v := (-2)) C dM_get_14 (by decide) ?_
    exact v_iret C dM_get_16 (by rw [hQ])
theorem dM_pull_0 : decode prog_7_method_31_code 0 = .ok (.aload_n 0, 1) := by decide +kernel
theorem dM_pull_1 : decode prog_7_method_31_code 1 = .ok (.iconst 0, 1) := by decide +kernel
theorem dM_pull_2 : decode prog_7_method_31_code 2 = .ok (.putfield 73, 3) := by decide +kernel
theorem dM_pull_5 : decode prog_7_method_31_code 5 = .ok (.iload_n 1, 1) := by decide +kernel
theorem dM_pull_6 : decode prog_7_method_31_code 6 = .ok (.iconst 0, 1) := by decide +kernel
theorem dM_pull_7 : decode prog_7_method_31_code 7 = .ok (.iconst 3, 1) := by decide +kernel
theorem dM_pull_8 : decode prog_7_method_31_code 8 = .ok (.invokestatic 76, 3) := by decide +kernel
theorem dM_pull_11 : decode prog_7_method_31_code 11 = .ok (.ifCond .ne 6, 3) := by decide +kernel
theorem dM_pull_14 : decode prog_7_method_31_code 14 = .ok (.bipush (-2), 2) := by decide +kernel
theorem dM_pull_16 : decode prog_7_method_31_code 16 = .ok (.ireturn, 1) := by decide +kernel
theorem dM_pull_17 : decode prog_7_method_31_code 17 = .ok (.aload_n 0, 1) := by decide +kernel
theorem dM_pull_18 : decode prog_7_method_31_code 18 = .ok (.getfield 66, 3) := by decide +kernel
theorem dM_pull_21 : decode prog_7_method_31_code 21 = .ok (.iconst (-1), 1) := by decide +kernel
theorem dM_pull_22 : decode prog_7_method_31_code 22 = .ok (.if_icmp .eq 16, 3) := by decide +kernel
theorem dM_pull_25 : decode prog_7_method_31_code 25 = .ok (.aload_n 0, 1) := by decide +kernel
theorem dM_pull_26 : decode prog_7_method_31_code 26 = .ok (.getfield 66, 3) := by decide +kernel
theorem dM_pull_29 : decode prog_7_method_31_code 29 = .ok (.iconst 4, 1) := by decide +kernel
theorem dM_pull_30 : decode prog_7_method_31_code 30 = .ok (.iload_n 1, 1) := by decide +kernel
theorem dM_pull_31 : decode prog_7_method_31_code 31 = .ok (.iadd, 1) := by decide +kernel
theorem dM_pull_32 : decode prog_7_method_31_code 32 = .ok (.if_icmp .eq 6, 3) := by decide +kernel
theorem dM_pull_35 : decode prog_7_method_31_code 35 = .ok (.bipush (-4), 2) := by decide +kernel
theorem dM_pull_37 : decode prog_7_method_31_code 37 = .ok (.ireturn, 1) := by decide +kernel
theorem dM_pull_38 : decode prog_7_method_31_code 38 = .ok (.iconst (-1), 1) := by decide +kernel
theorem dM_pull_39 : decode prog_7_method_31_code 39 = .ok (.istore_n 2, 1) := by decide +kernel
theorem dM_pull_40 : decode prog_7_method_31_code 40 = .ok (.iload_n 2, 1) := by decide +kernel
theorem dM_pull_41 : decode prog_7_method_31_code 41 = .ok (.iconst (-1), 1) := by decide +kernel
theorem dM_pull_42 : decode prog_7_method_31_code 42 = .ok (.if_icmp .ne 46, 3) := by decide +kernel
theorem dM_pull_45 : decode prog_7_method_31_code 45 = .ok (.aload_n 0, 1) := by decide +kernel
theorem dM_pull_46 : decode prog_7_method_31_code 46 = .ok (.getfield 138, 3) := by decide +kernel
theorem dM_pull_49 : decode prog_7_method_31_code 49 = .ok (.aload_n 0, 1) := by decide +kernel
theorem dM_pull_50 : decode prog_7_method_31_code 50 = .ok (.getfield 132, 3) := by decide +kernel
theorem dM_pull_53 : decode prog_7_method_31_code 53 = .ok (.if_icmp .ge 35, 3) := by decide +kernel
theorem dM_pull_56 : decode prog_7_method_31_code 56 = .ok (.aload_n 0, 1) := by decide +kernel
theorem dM_pull_57 : decode prog_7_method_31_code 57 = .ok (.dup, 1) := by decide +kernel
theorem dM_pull_58 : decode prog_7_method_31_code 58 = .ok (.getfield 138, 3) := by decide +kernel
theorem dM_pull_61 : decode prog_7_method_31_code 61 = .ok (.iconst 1, 1) := by decide +kernel
theorem dM_pull_62 : decode prog_7_method_31_code 62 = .ok (.iadd, 1) := by decide +kernel
theorem dM_pull_63 : decode prog_7_method_31_code 63 = .ok (.putfield 138, 3) := by decide +kernel
theorem dM_pull_66 : decode prog_7_method_31_code 66 = .ok (.aload_n 0, 1) := by decide +kernel
theorem dM_pull_67 : decode prog_7_method_31_code 67 = .ok (.iconst 4, 1) := by decide +kernel
theorem dM_pull_68 : decode prog_7_method_31_code 68 = .ok (.iload_n 1, 1) := by decide +kernel
theorem dM_pull_69 : decode prog_7_method_31_code 69 = .ok (.iadd, 1) := by decide +kernel
theorem dM_pull_70 : decode prog_7_method_31_code 70 = .ok (.aload_n 0, 1) := by decide +kernel
theorem dM_pull_71 : decode prog_7_method_31_code 71 = .ok (.getfield 41, 3) := by decide +kernel
theorem dM_pull_74 : decode prog_7_method_31_code 74 = .ok (.aload_n 0, 1) := by decide +kernel
theorem dM_pull_75 : decode prog_7_method_31_code 75 = .ok (.getfield 138, 3) := by decide +kernel
theorem dM_pull_78 : decode prog_7_method_31_code 78 = .ok (.iconst 1, 1) := by decide +kernel
theorem dM_pull_79 : decode prog_7_method_31_code 79 = .ok (.isub, 1) := by decide +kernel
theorem dM_pull_80 : decode prog_7_method_31_code 80 = .ok (.baload, 1) := by decide +kernel
theorem dM_pull_81 : decode prog_7_method_31_code 81 = .ok (.invokevirtual 156, 3) := by decide +kernel
theorem dM_pull_84 : decode prog_7_method_31_code 84 = .ok (.istore_n 2, 1) := by decide +kernel
theorem dM_pull_85 : decode prog_7_method_31_code 85 = .ok (.goto (-45), 3) := by decide +kernel
theorem dM_pull_88 : decode prog_7_method_31_code 88 = .ok (.iload_n 2, 1) := by decide +kernel
theorem dM_pull_89 : decode prog_7_method_31_code 89 = .ok (.ireturn, 1) := by decide +kernel
def LM_pull_40 (a0 : Nat) (p1 : Int32) (K7 : Hp → Int32 → Option (Hp × Int32)) (rec10 : Hp → Int32 → Option (Hp × Int32)) (h8 : Hp) (x9 : Int32) : Option (Hp × Int32) :=
  if x9 = (-1) then
    (gI h8 a0 5 15 (fun x11 =>
    gI h8 a0 5 13 (fun x12 =>
    if x12 ≤ x11 then
      (K7 h8 x9)
    else
      (gI h8 a0 5 15 (fun x13 =>
      pF h8 a0 5 15 (.int (x13 + 1)) (fun h14 =>
      gR h14 a0 5 14 (fun a15 =>
      gI h14 a0 5 15 (fun x16 =>
      ldI h14 a15 1 (x16 - 1) (fun x17 =>
      gd (isO h14 a0 5 = true) ((FM_takes h14 a0 (4 + p1) x17).bind (fun r19 =>
      rec10 r19.1 r19.2)))))))))))
  else
    (K7 h8 x9)
def FM_pull (h0 : Hp) (a0 : Nat) (p1 : Int32) : Option (Hp × Int32) :=
  pF h0 a0 5 20 (.int 0) (fun h1 =>
  (FM_isIn h1 p1 0 3).bind (fun r2 =>
  if r2 = 0 then
    (some (h1, (-2)))
  else
    (gI h1 a0 5 16 (fun x3 =>
    jn (jn (fun (h5 : Hp) (x6 : Int32) =>
    some (h5, x6))
    (fun (K7 : Hp → Int32 → Option (Hp × Int32)) =>
    lpG (fun _ _ => none) fu (LM_pull_40 a0 p1 K7) h1 (-1)))
    (fun (j4 : Option (Hp × Int32)) =>
    if x3 = (-1) then
      (j4)
    else
      (gI h1 a0 5 16 (fun x20 =>
      if x20 = (4 + p1) then
        (j4)
      else
        (some (h1, (-4))))))))))
set_option maxRecDepth 100000 in
set_option maxHeartbeats 4000000 in
theorem mM_pull (l : Launch) (h0 : Hp) (z0 : Nat) (a0 : Nat) (p1 : Int32) (r : (Hp × Int32)) (hr : FM_pull h0 a0 p1 = some r) : vM False l yM_pull (Cond.code yM_pull prog_7_method_31_code 3 (some (.int)) :: gW) 6 [.ref a0, .int p1] h0 z0 r.1 z0 (some (.int r.2)) 0 0 := by
  refine vM.of (by decide) rfl (Nat.le_of_ble_eq_true rfl) ?_
  intro p e s m args below meth c D dA C hin2
  refine (?_ : vO p l e (vR 6 0 0) s m args below meth c D dA (vA h0 z0) 3 False (fun r : (Hp × Int32) => MQ below (vQc False h0 z0 D dA r.1 z0 (some (.int r.2))) args s 0 0 (vAr False h0 z0)) 0 0 h0 z0 [(0, .ref a0), (1, .int p1)] 0 [] (FM_pull h0 a0 p1)) r hr
  obtain ⟨Q, hQ⟩ : ∃ Q : (Hp × Int32) → State → Prop, Q = (fun r : (Hp × Int32) => MQ below (vQc False h0 z0 D dA r.1 z0 (some (.int r.2))) args s 0 0 (vAr False h0 z0)) := ⟨_, rfl⟩
  rw [← hQ]
  unfold FM_pull
  refine v_aload_n C dM_pull_0 rfl 0 rfl ?_
  refine v_iconst (v := 0) C dM_pull_1 (by decide) ?_
  refine v_put C v_cl5 (by decide) in_5 ty_5 ty_5_ok nm_5 rfl w_629 rfl (ty := .int) (by decide +kernel) rfl rfl dM_pull_2 (fun h1 => ?_)
  refine v_iload_n C dM_pull_5 rfl 1 rfl ?_
  refine v_iconst (v := 0) C dM_pull_6 (by decide) ?_
  refine v_iconst (v := 3) C dM_pull_7 (by decide) ?_
  refine v_bind fun r2 hr2 => ?_
  refine v_callS0 (N := 3) (As := [.int p1, .int 0, .int 3]) (st := []) C (fun _ => trivial) (mM_isIn l h1 z0 p1 0 3 r2 hr2) rfl w_698 w_53 (by decide +kernel) ⟨Nat.le_of_ble_eq_true rfl, Nat.le_of_ble_eq_true rfl⟩ rfl rfl (Nat.le_of_ble_eq_true rfl) ⟨Nat.zero_le _, Nat.zero_le _⟩ w_696 w_697 dM_pull_8 ?_
  refine v_if_ne (tgt := 17) C dM_pull_11 (by decide) ?_ ?_
  · refine v_aload_n C dM_pull_17 rfl 0 rfl ?_
    refine v_getI C v_cl5 (by decide) in_5 rfl w_625 dM_pull_18 (fun x3 => ?_)
    refine v_iconst (v := (-1)) C dM_pull_21 (by decide) ?_
    refine v_jn (fun (j : Option (Hp × Int32)) => vO p l e (vR 6 0 0) s m args below meth c D dA (vA h0 z0) 3 False Q 0 0 h1 z0 [(0, .ref a0), (1, .int p1)] 38 [] j) ?_ (fun j4 Hj4 => ?_)
    · refine v_iconst (v := (-1)) C dM_pull_38 (by decide) ?_
      refine v_istore_n (lv' := [(0, .ref a0), (1, .int p1), (2, .int (-1))]) C dM_pull_39 rfl (by decide) [1, 2, 0] rfl ?_
      refine v_jn (fun (j : Hp → Int32 → Option (Hp × Int32)) => ∀ (h5 : Hp), ∀ (x6 : Int32), vO p l e (vR 6 0 0) s m args below meth c D dA (vA h0 z0) 3 False Q 0 0 h5 z0 [(2, .int x6)] 88 [] (j h5 x6)) ?_ (fun K7 HK7 => ?_)
      · intro h5 x6
        refine v_iload_n C dM_pull_88 rfl 0 rfl ?_
        exact v_iret C dM_pull_89 (by rw [hQ])
      · refine lpG_ind (bot := (fun _ _ => none)) (B := LM_pull_40 a0 p1 K7) (fun (r : Hp → Int32 → Option (Hp × Int32)) => ∀ (h8 : Hp), ∀ (x9 : Int32), vO p l e (vR 6 0 0) s m args below meth c D dA (vA h0 z0) 3 False Q 0 0 h8 z0 [(0, .ref a0), (1, .int p1), (2, .int x9)] 40 [] (r h8 x9)) ?_ ?_ fu h1 (-1)
        · intro h8 x9
          exact v_none
        · intro rec10 Hrec10 h8 x9
          unfold LM_pull_40
          refine v_iload_n C dM_pull_40 rfl 2 rfl ?_
          refine v_iconst (v := (-1)) C dM_pull_41 (by decide) ?_
          refine v_icmp_ne (tgt := 88) C dM_pull_42 (by decide) ?_ ?_
          · refine v_lv (lv' := [(2, .int x9)]) [2] rfl ?_
            exact HK7 h8 x9
          · refine v_aload_n C dM_pull_45 rfl 0 rfl ?_
            refine v_getI C v_cl5 (by decide) in_5 rfl w_624 dM_pull_46 (fun x11 => ?_)
            refine v_aload_n C dM_pull_49 rfl 0 rfl ?_
            refine v_getI C v_cl5 (by decide) in_5 rfl w_622 dM_pull_50 (fun x12 => ?_)
            refine v_icmp_ge (tgt := 88) C dM_pull_53 (by decide) ?_ ?_
            · refine v_lv (lv' := [(2, .int x9)]) [2] rfl ?_
              exact HK7 h8 x9
            · refine v_aload_n C dM_pull_56 rfl 0 rfl ?_
              refine v_dup C dM_pull_57 rfl ?_
              refine v_getI C v_cl5 (by decide) in_5 rfl w_624 dM_pull_58 (fun x13 => ?_)
              refine v_iconst (v := 1) C dM_pull_61 (by decide) ?_
              refine v_iadd C dM_pull_62 ?_
              refine v_put C v_cl5 (by decide) in_5 ty_5 ty_5_ok nm_5 rfl w_624 rfl (ty := .int) (by decide +kernel) rfl rfl dM_pull_63 (fun h14 => ?_)
              refine v_aload_n C dM_pull_66 rfl 0 rfl ?_
              refine v_iconst (v := 4) C dM_pull_67 (by decide) ?_
              refine v_iload_n C dM_pull_68 rfl 1 rfl ?_
              refine v_iadd C dM_pull_69 ?_
              refine v_aload_n C dM_pull_70 rfl 0 rfl ?_
              refine v_getR C v_cl5 (by decide) in_5 rfl w_623 dM_pull_71 (fun a15 => ?_)
              refine v_aload_n C dM_pull_74 rfl 0 rfl ?_
              refine v_getI C v_cl5 (by decide) in_5 rfl w_624 dM_pull_75 (fun x16 => ?_)
              refine v_iconst (v := 1) C dM_pull_78 (by decide) ?_
              refine v_isub C dM_pull_79 ?_
              refine v_zald C rfl dM_pull_80 (fun x17 => ?_)
              refine v_gd fun hO18 => ?_
              refine v_bind fun r19 hr19 => ?_
              refine v_callV0 (N := 2) (As := [.int (4 + p1), .int x17]) (st := []) C (fun f => f.elim) (mM_takes l h14 z0 a0 (4 + p1) x17 r19 hr19) rfl w_787 w_53 (by decide +kernel) ⟨Nat.le_of_ble_eq_true rfl, Nat.le_of_ble_eq_true rfl⟩ rfl rfl (Nat.le_of_ble_eq_true rfl) ⟨Nat.zero_le _, Nat.zero_le _⟩ w_784 w_786 w_40 v_cl5 rfl hO18 dM_pull_81 ?_
              refine v_istore_n (lv' := [(0, .ref a0), (1, .int p1), (2, .int r19.2)]) C dM_pull_84 rfl (by decide) [1, 2, 0] rfl ?_
              refine v_goto (tgt := 40) C dM_pull_85 (by decide) ?_
              exact Hrec10 r19.1 r19.2
    · refine v_icmp_eq (tgt := 38) C dM_pull_22 (by decide) ?_ ?_
      · exact Hj4
      · refine v_aload_n C dM_pull_25 rfl 0 rfl ?_
        refine v_getI C v_cl5 (by decide) in_5 rfl w_625 dM_pull_26 (fun x20 => ?_)
        refine v_iconst (v := 4) C dM_pull_29 (by decide) ?_
        refine v_iload_n C dM_pull_30 rfl 1 rfl ?_
        refine v_iadd C dM_pull_31 ?_
        refine v_icmp_eq (tgt := 38) C dM_pull_32 (by decide) ?_ ?_
        · exact Hj4
        · refine v_bipush (v := (-4)) C dM_pull_35 (by decide) ?_
          exact v_iret C dM_pull_37 (by rw [hQ])
  · refine v_bipush (v := (-2)) C dM_pull_14 (by decide) ?_
    exact v_iret C dM_pull_16 (by rw [hQ])
theorem dM_pulled_0 : decode prog_7_method_32_code 0 = .ok (.aload_n 0, 1) := by decide +kernel
theorem dM_pulled_1 : decode prog_7_method_32_code 1 = .ok (.iconst 0, 1) := by decide +kernel
theorem dM_pulled_2 : decode prog_7_method_32_code 2 = .ok (.putfield 73, 3) := by decide +kernel
theorem dM_pulled_5 : decode prog_7_method_32_code 5 = .ok (.aload_n 0, 1) := by decide +kernel
theorem dM_pulled_6 : decode prog_7_method_32_code 6 = .ok (.getfield 138, 3) := by decide +kernel
theorem dM_pulled_9 : decode prog_7_method_32_code 9 = .ok (.ireturn, 1) := by decide +kernel
def FM_pulled (h0 : Hp) (a0 : Nat) : Option (Hp × Int32) :=
  pF h0 a0 5 20 (.int 0) (fun h1 =>
  gI h1 a0 5 15 (fun x2 =>
  some (h1, x2)))
set_option maxRecDepth 100000 in
set_option maxHeartbeats 4000000 in
theorem mM_pulled (l : Launch) (h0 : Hp) (z0 : Nat) (a0 : Nat) (r : (Hp × Int32)) (hr : FM_pulled h0 a0 = some r) : vM False l yM_pulled (Cond.code yM_pulled prog_7_method_32_code 1 (some (.int)) :: gW) 0 [.ref a0] h0 z0 r.1 z0 (some (.int r.2)) 0 0 := by
  refine vM.of (by decide) rfl (Nat.le_of_ble_eq_true rfl) ?_
  intro p e s m args below meth c D dA C hin2
  refine (?_ : vO p l e (vR 0 0 0) s m args below meth c D dA (vA h0 z0) 1 False (fun r : (Hp × Int32) => MQ below (vQc False h0 z0 D dA r.1 z0 (some (.int r.2))) args s 0 0 (vAr False h0 z0)) 0 0 h0 z0 [(0, .ref a0)] 0 [] (FM_pulled h0 a0)) r hr
  obtain ⟨Q, hQ⟩ : ∃ Q : (Hp × Int32) → State → Prop, Q = (fun r : (Hp × Int32) => MQ below (vQc False h0 z0 D dA r.1 z0 (some (.int r.2))) args s 0 0 (vAr False h0 z0)) := ⟨_, rfl⟩
  rw [← hQ]
  unfold FM_pulled
  refine v_aload_n C dM_pulled_0 rfl 0 rfl ?_
  refine v_iconst (v := 0) C dM_pulled_1 (by decide) ?_
  refine v_put C v_cl5 (by decide) in_5 ty_5 ty_5_ok nm_5 rfl w_629 rfl (ty := .int) (by decide +kernel) rfl rfl dM_pulled_2 (fun h1 => ?_)
  refine v_aload_n C dM_pulled_5 rfl 0 rfl ?_
  refine v_getI C v_cl5 (by decide) in_5 rfl w_624 dM_pulled_6 (fun x2 => ?_)
  exact v_iret C dM_pulled_9 (by rw [hQ])
theorem dM_cost_0 : decode prog_7_method_33_code 0 = .ok (.aload_n 0, 1) := by decide +kernel
theorem dM_cost_1 : decode prog_7_method_33_code 1 = .ok (.iconst 0, 1) := by decide +kernel
theorem dM_cost_2 : decode prog_7_method_33_code 2 = .ok (.putfield 73, 3) := by decide +kernel
theorem dM_cost_5 : decode prog_7_method_33_code 5 = .ok (.iload_n 1, 1) := by decide +kernel
theorem dM_cost_6 : decode prog_7_method_33_code 6 = .ok (.iload_n 2, 1) := by decide +kernel
theorem dM_cost_7 : decode prog_7_method_33_code 7 = .ok (.invokestatic 160, 3) := by decide +kernel
theorem dM_cost_10 : decode prog_7_method_33_code 10 = .ok (.ifCond .ne 6, 3) := by decide +kernel
theorem dM_cost_13 : decode prog_7_method_33_code 13 = .ok (.bipush (-2), 2) := by decide +kernel
theorem dM_cost_15 : decode prog_7_method_33_code 15 = .ok (.ireturn, 1) := by decide +kernel
theorem dM_cost_16 : decode prog_7_method_33_code 16 = .ok (.iload_n 3, 1) := by decide +kernel
theorem dM_cost_17 : decode prog_7_method_33_code 17 = .ok (.iconst 0, 1) := by decide +kernel
theorem dM_cost_18 : decode prog_7_method_33_code 18 = .ok (.aload_n 0, 1) := by decide +kernel
theorem dM_cost_19 : decode prog_7_method_33_code 19 = .ok (.getfield 56, 3) := by decide +kernel
theorem dM_cost_22 : decode prog_7_method_33_code 22 = .ok (.iconst 1, 1) := by decide +kernel
theorem dM_cost_23 : decode prog_7_method_33_code 23 = .ok (.isub, 1) := by decide +kernel
theorem dM_cost_24 : decode prog_7_method_33_code 24 = .ok (.invokestatic 76, 3) := by decide +kernel
theorem dM_cost_27 : decode prog_7_method_33_code 27 = .ok (.ifCond .ne 6, 3) := by decide +kernel
theorem dM_cost_30 : decode prog_7_method_33_code 30 = .ok (.bipush (-3), 2) := by decide +kernel
theorem dM_cost_32 : decode prog_7_method_33_code 32 = .ok (.ireturn, 1) := by decide +kernel
theorem dM_cost_33 : decode prog_7_method_33_code 33 = .ok (.aload_n 0, 1) := by decide +kernel
theorem dM_cost_34 : decode prog_7_method_33_code 34 = .ok (.iconst 4, 1) := by decide +kernel
theorem dM_cost_35 : decode prog_7_method_33_code 35 = .ok (.iload_n 1, 1) := by decide +kernel
theorem dM_cost_36 : decode prog_7_method_33_code 36 = .ok (.imul, 1) := by decide +kernel
theorem dM_cost_37 : decode prog_7_method_33_code 37 = .ok (.iload_n 2, 1) := by decide +kernel
theorem dM_cost_38 : decode prog_7_method_33_code 38 = .ok (.iadd, 1) := by decide +kernel
theorem dM_cost_39 : decode prog_7_method_33_code 39 = .ok (.iload_n 3, 1) := by decide +kernel
theorem dM_cost_40 : decode prog_7_method_33_code 40 = .ok (.invokevirtual 129, 3) := by decide +kernel
theorem dM_cost_43 : decode prog_7_method_33_code 43 = .ok (.aload_n 0, 1) := by decide +kernel
theorem dM_cost_44 : decode prog_7_method_33_code 44 = .ok (.getfield 114, 3) := by decide +kernel
theorem dM_cost_47 : decode prog_7_method_33_code 47 = .ok (.ireturn, 1) := by decide +kernel
def FM_cost (h0 : Hp) (a0 : Nat) (p1 : Int32) (p2 : Int32) (p3 : Int32) : Option (Hp × Int32) :=
  pF h0 a0 5 20 (.int 0) (fun h1 =>
  (FM_isTree h1 p1 p2).bind (fun r2 =>
  if r2 = 0 then
    (some (h1, (-2)))
  else
    (gI h1 a0 5 0 (fun x3 =>
    (FM_isIn h1 p3 0 (x3 - 1)).bind (fun r4 =>
    if r4 = 0 then
      (some (h1, (-3)))
    else
      (gd (isO h1 a0 5 = true) ((FM_find h1 a0 ((4 * p1) + p2) p3).bind (fun r6 =>
      gI r6 a0 5 25 (fun x7 =>
      some (r6, x7))))))))))
set_option maxRecDepth 100000 in
set_option maxHeartbeats 4000000 in
theorem mM_cost (l : Launch) (h0 : Hp) (z0 : Nat) (a0 : Nat) (p1 : Int32) (p2 : Int32) (p3 : Int32) (r : (Hp × Int32)) (hr : FM_cost h0 a0 p1 p2 p3 = some r) : vM False l yM_cost (Cond.code yM_cost prog_7_method_33_code 4 (some (.int)) :: gW) 4 [.ref a0, .int p1, .int p2, .int p3] h0 z0 r.1 z0 (some (.int r.2)) 0 0 := by
  refine vM.of (by decide) rfl (Nat.le_of_ble_eq_true rfl) ?_
  intro p e s m args below meth c D dA C hin2
  refine (?_ : vO p l e (vR 4 0 0) s m args below meth c D dA (vA h0 z0) 4 False (fun r : (Hp × Int32) => MQ below (vQc False h0 z0 D dA r.1 z0 (some (.int r.2))) args s 0 0 (vAr False h0 z0)) 0 0 h0 z0 [(0, .ref a0), (1, .int p1), (2, .int p2), (3, .int p3)] 0 [] (FM_cost h0 a0 p1 p2 p3)) r hr
  obtain ⟨Q, hQ⟩ : ∃ Q : (Hp × Int32) → State → Prop, Q = (fun r : (Hp × Int32) => MQ below (vQc False h0 z0 D dA r.1 z0 (some (.int r.2))) args s 0 0 (vAr False h0 z0)) := ⟨_, rfl⟩
  rw [← hQ]
  unfold FM_cost
  refine v_aload_n C dM_cost_0 rfl 0 rfl ?_
  refine v_iconst (v := 0) C dM_cost_1 (by decide) ?_
  refine v_put C v_cl5 (by decide) in_5 ty_5 ty_5_ok nm_5 rfl w_629 rfl (ty := .int) (by decide +kernel) rfl rfl dM_cost_2 (fun h1 => ?_)
  refine v_iload_n C dM_cost_5 rfl 1 rfl ?_
  refine v_iload_n C dM_cost_6 rfl 2 rfl ?_
  refine v_bind fun r2 hr2 => ?_
  refine v_callS0 (N := 2) (As := [.int p1, .int p2]) (st := []) C (fun _ => trivial) (mM_isTree l h1 z0 p1 p2 r2 hr2) rfl w_810 w_53 (by decide +kernel) ⟨Nat.le_of_ble_eq_true rfl, Nat.le_of_ble_eq_true rfl⟩ rfl rfl (Nat.le_of_ble_eq_true rfl) ⟨Nat.zero_le _, Nat.zero_le _⟩ w_808 w_809 dM_cost_7 ?_
  refine v_if_ne (tgt := 16) C dM_cost_10 (by decide) ?_ ?_
  · refine v_iload_n C dM_cost_16 rfl 3 rfl ?_
    refine v_iconst (v := 0) C dM_cost_17 (by decide) ?_
    refine v_aload_n C dM_cost_18 rfl 0 rfl ?_
    refine v_getI C v_cl5 (by decide) in_5 rfl w_609 dM_cost_19 (fun x3 => ?_)
    refine v_iconst (v := 1) C dM_cost_22 (by decide) ?_
    refine v_isub C dM_cost_23 ?_
    refine v_bind fun r4 hr4 => ?_
    refine v_callS0 (N := 3) (As := [.int p3, .int 0, .int (x3 - 1)]) (st := []) C (fun _ => trivial) (mM_isIn l h1 z0 p3 0 (x3 - 1) r4 hr4) rfl w_698 w_53 (by decide +kernel) ⟨Nat.le_of_ble_eq_true rfl, Nat.le_of_ble_eq_true rfl⟩ rfl rfl (Nat.le_of_ble_eq_true rfl) ⟨Nat.zero_le _, Nat.zero_le _⟩ w_696 w_697 dM_cost_24 ?_
    refine v_if_ne (tgt := 33) C dM_cost_27 (by decide) ?_ ?_
    · refine v_aload_n C dM_cost_33 rfl 0 rfl ?_
      refine v_iconst (v := 4) C dM_cost_34 (by decide) ?_
      refine v_iload_n C dM_cost_35 rfl 1 rfl ?_
      refine v_imul C dM_cost_36 ?_
      refine v_iload_n C dM_cost_37 rfl 2 rfl ?_
      refine v_iadd C dM_cost_38 ?_
      refine v_iload_n C dM_cost_39 rfl 3 rfl ?_
      refine v_gd fun hO5 => ?_
      refine v_bind fun r6 hr6 => ?_
      refine v_callV0 (N := 2) (As := [.int ((4 * p1) + p2), .int p3]) (st := []) C (fun f => f.elim) (mM_find l h1 z0 a0 ((4 * p1) + p2) p3 r6 hr6) rfl w_711 w_53 (by decide +kernel) ⟨Nat.le_of_ble_eq_true rfl, Nat.le_of_ble_eq_true rfl⟩ rfl rfl (Nat.le_of_ble_eq_true rfl) ⟨Nat.zero_le _, Nat.zero_le _⟩ w_708 w_710 w_25 v_cl5 rfl hO5 dM_cost_40 ?_
      refine v_aload_n C dM_cost_43 rfl 0 rfl ?_
      refine v_getI C v_cl5 (by decide) in_5 rfl w_634 dM_cost_44 (fun x7 => ?_)
      exact v_iret C dM_cost_47 (by rw [hQ])
    · refine v_bipush (v := (-3)) C dM_cost_30 (by decide) ?_
      exact v_iret C dM_cost_32 (by rw [hQ])
  · refine v_bipush (v := (-2)) C dM_cost_13 (by decide) ?_
    exact v_iret C dM_cost_15 (by rw [hQ])
theorem dM_code_0 : decode prog_7_method_34_code 0 = .ok (.aload_n 0, 1) := by decide +kernel
theorem dM_code_1 : decode prog_7_method_34_code 1 = .ok (.iconst 0, 1) := by decide +kernel
theorem dM_code_2 : decode prog_7_method_34_code 2 = .ok (.putfield 73, 3) := by decide +kernel
theorem dM_code_5 : decode prog_7_method_34_code 5 = .ok (.iload_n 1, 1) := by decide +kernel
theorem dM_code_6 : decode prog_7_method_34_code 6 = .ok (.iload_n 2, 1) := by decide +kernel
theorem dM_code_7 : decode prog_7_method_34_code 7 = .ok (.invokestatic 160, 3) := by decide +kernel
theorem dM_code_10 : decode prog_7_method_34_code 10 = .ok (.ifCond .ne 6, 3) := by decide +kernel
theorem dM_code_13 : decode prog_7_method_34_code 13 = .ok (.bipush (-2), 2) := by decide +kernel
theorem dM_code_15 : decode prog_7_method_34_code 15 = .ok (.ireturn, 1) := by decide +kernel
theorem dM_code_16 : decode prog_7_method_34_code 16 = .ok (.iload_n 3, 1) := by decide +kernel
theorem dM_code_17 : decode prog_7_method_34_code 17 = .ok (.iconst 0, 1) := by decide +kernel
theorem dM_code_18 : decode prog_7_method_34_code 18 = .ok (.aload_n 0, 1) := by decide +kernel
theorem dM_code_19 : decode prog_7_method_34_code 19 = .ok (.getfield 56, 3) := by decide +kernel
theorem dM_code_22 : decode prog_7_method_34_code 22 = .ok (.iconst 1, 1) := by decide +kernel
theorem dM_code_23 : decode prog_7_method_34_code 23 = .ok (.isub, 1) := by decide +kernel
theorem dM_code_24 : decode prog_7_method_34_code 24 = .ok (.invokestatic 76, 3) := by decide +kernel
theorem dM_code_27 : decode prog_7_method_34_code 27 = .ok (.ifCond .ne 6, 3) := by decide +kernel
theorem dM_code_30 : decode prog_7_method_34_code 30 = .ok (.bipush (-3), 2) := by decide +kernel
theorem dM_code_32 : decode prog_7_method_34_code 32 = .ok (.ireturn, 1) := by decide +kernel
theorem dM_code_33 : decode prog_7_method_34_code 33 = .ok (.aload_n 0, 1) := by decide +kernel
theorem dM_code_34 : decode prog_7_method_34_code 34 = .ok (.iconst 4, 1) := by decide +kernel
theorem dM_code_35 : decode prog_7_method_34_code 35 = .ok (.iload_n 1, 1) := by decide +kernel
theorem dM_code_36 : decode prog_7_method_34_code 36 = .ok (.imul, 1) := by decide +kernel
theorem dM_code_37 : decode prog_7_method_34_code 37 = .ok (.iload_n 2, 1) := by decide +kernel
theorem dM_code_38 : decode prog_7_method_34_code 38 = .ok (.iadd, 1) := by decide +kernel
theorem dM_code_39 : decode prog_7_method_34_code 39 = .ok (.iload_n 3, 1) := by decide +kernel
theorem dM_code_40 : decode prog_7_method_34_code 40 = .ok (.invokevirtual 129, 3) := by decide +kernel
theorem dM_code_43 : decode prog_7_method_34_code 43 = .ok (.iload 4, 2) := by decide +kernel
theorem dM_code_45 : decode prog_7_method_34_code 45 = .ok (.iconst 0, 1) := by decide +kernel
theorem dM_code_46 : decode prog_7_method_34_code 46 = .ok (.aload_n 0, 1) := by decide +kernel
theorem dM_code_47 : decode prog_7_method_34_code 47 = .ok (.getfield 114, 3) := by decide +kernel
theorem dM_code_50 : decode prog_7_method_34_code 50 = .ok (.iconst 1, 1) := by decide +kernel
theorem dM_code_51 : decode prog_7_method_34_code 51 = .ok (.isub, 1) := by decide +kernel
theorem dM_code_52 : decode prog_7_method_34_code 52 = .ok (.invokestatic 76, 3) := by decide +kernel
theorem dM_code_55 : decode prog_7_method_34_code 55 = .ok (.ifCond .ne 7, 3) := by decide +kernel
theorem dM_code_58 : decode prog_7_method_34_code 58 = .ok (.iconst (-1), 1) := by decide +kernel
theorem dM_code_59 : decode prog_7_method_34_code 59 = .ok (.goto 25, 3) := by decide +kernel
theorem dM_code_62 : decode prog_7_method_34_code 62 = .ok (.aload_n 0, 1) := by decide +kernel
theorem dM_code_63 : decode prog_7_method_34_code 63 = .ok (.getfield 53, 3) := by decide +kernel
theorem dM_code_66 : decode prog_7_method_34_code 66 = .ok (.aload_n 0, 1) := by decide +kernel
theorem dM_code_67 : decode prog_7_method_34_code 67 = .ok (.getfield 114, 3) := by decide +kernel
theorem dM_code_70 : decode prog_7_method_34_code 70 = .ok (.iconst 1, 1) := by decide +kernel
theorem dM_code_71 : decode prog_7_method_34_code 71 = .ok (.isub, 1) := by decide +kernel
theorem dM_code_72 : decode prog_7_method_34_code 72 = .ok (.iload 4, 2) := by decide +kernel
theorem dM_code_74 : decode prog_7_method_34_code 74 = .ok (.isub, 1) := by decide +kernel
theorem dM_code_75 : decode prog_7_method_34_code 75 = .ok (.baload, 1) := by decide +kernel
theorem dM_code_76 : decode prog_7_method_34_code 76 = .ok (.ifCond .eq 7, 3) := by decide +kernel
theorem dM_code_79 : decode prog_7_method_34_code 79 = .ok (.iconst 1, 1) := by decide +kernel
theorem dM_code_80 : decode prog_7_method_34_code 80 = .ok (.goto 4, 3) := by decide +kernel
theorem dM_code_83 : decode prog_7_method_34_code 83 = .ok (.iconst 0, 1) := by decide +kernel
theorem dM_code_84 : decode prog_7_method_34_code 84 = .ok (.ireturn, 1) := by decide +kernel
def FM_code (h0 : Hp) (a0 : Nat) (p1 : Int32) (p2 : Int32) (p3 : Int32) (p4 : Int32) : Option (Hp × Int32) :=
  pF h0 a0 5 20 (.int 0) (fun h1 =>
  (FM_isTree h1 p1 p2).bind (fun r2 =>
  if r2 = 0 then
    (some (h1, (-2)))
  else
    (gI h1 a0 5 0 (fun x3 =>
    (FM_isIn h1 p3 0 (x3 - 1)).bind (fun r4 =>
    if r4 = 0 then
      (some (h1, (-3)))
    else
      (gd (isO h1 a0 5 = true) ((FM_find h1 a0 ((4 * p1) + p2) p3).bind (fun r6 =>
      gI r6 a0 5 25 (fun x7 =>
      (FM_isIn r6 p4 0 (x7 - 1)).bind (fun r8 =>
      jn (fun (y9 : Int32) =>
      some (r6, y9))
      (fun (j10 : Int32 → Option (Hp × Int32)) =>
      if r8 = 0 then
        (j10 (-1))
      else
        (gR r6 a0 5 24 (fun a11 =>
        gI r6 a0 5 25 (fun x12 =>
        ldI r6 a11 1 ((x12 - 1) - p4) (fun x13 =>
        if x13 = 0 then
          (j10 0)
        else
          (j10 1))))))))))))))))
set_option maxRecDepth 100000 in
set_option maxHeartbeats 4000000 in
theorem mM_code (l : Launch) (h0 : Hp) (z0 : Nat) (a0 : Nat) (p1 : Int32) (p2 : Int32) (p3 : Int32) (p4 : Int32) (r : (Hp × Int32)) (hr : FM_code h0 a0 p1 p2 p3 p4 = some r) : vM False l yM_code (Cond.code yM_code prog_7_method_34_code 5 (some (.int)) :: gW) 4 [.ref a0, .int p1, .int p2, .int p3, .int p4] h0 z0 r.1 z0 (some (.int r.2)) 0 0 := by
  refine vM.of (by decide) rfl (Nat.le_of_ble_eq_true rfl) ?_
  intro p e s m args below meth c D dA C hin2
  refine (?_ : vO p l e (vR 4 0 0) s m args below meth c D dA (vA h0 z0) 5 False (fun r : (Hp × Int32) => MQ below (vQc False h0 z0 D dA r.1 z0 (some (.int r.2))) args s 0 0 (vAr False h0 z0)) 0 0 h0 z0 [(0, .ref a0), (1, .int p1), (2, .int p2), (3, .int p3), (4, .int p4)] 0 [] (FM_code h0 a0 p1 p2 p3 p4)) r hr
  obtain ⟨Q, hQ⟩ : ∃ Q : (Hp × Int32) → State → Prop, Q = (fun r : (Hp × Int32) => MQ below (vQc False h0 z0 D dA r.1 z0 (some (.int r.2))) args s 0 0 (vAr False h0 z0)) := ⟨_, rfl⟩
  rw [← hQ]
  unfold FM_code
  refine v_aload_n C dM_code_0 rfl 0 rfl ?_
  refine v_iconst (v := 0) C dM_code_1 (by decide) ?_
  refine v_put C v_cl5 (by decide) in_5 ty_5 ty_5_ok nm_5 rfl w_629 rfl (ty := .int) (by decide +kernel) rfl rfl dM_code_2 (fun h1 => ?_)
  refine v_iload_n C dM_code_5 rfl 1 rfl ?_
  refine v_iload_n C dM_code_6 rfl 2 rfl ?_
  refine v_bind fun r2 hr2 => ?_
  refine v_callS0 (N := 2) (As := [.int p1, .int p2]) (st := []) C (fun _ => trivial) (mM_isTree l h1 z0 p1 p2 r2 hr2) rfl w_810 w_53 (by decide +kernel) ⟨Nat.le_of_ble_eq_true rfl, Nat.le_of_ble_eq_true rfl⟩ rfl rfl (Nat.le_of_ble_eq_true rfl) ⟨Nat.zero_le _, Nat.zero_le _⟩ w_808 w_809 dM_code_7 ?_
  refine v_if_ne (tgt := 16) C dM_code_10 (by decide) ?_ ?_
  · refine v_iload_n C dM_code_16 rfl 3 rfl ?_
    refine v_iconst (v := 0) C dM_code_17 (by decide) ?_
    refine v_aload_n C dM_code_18 rfl 0 rfl ?_
    refine v_getI C v_cl5 (by decide) in_5 rfl w_609 dM_code_19 (fun x3 => ?_)
    refine v_iconst (v := 1) C dM_code_22 (by decide) ?_
    refine v_isub C dM_code_23 ?_
    refine v_bind fun r4 hr4 => ?_
    refine v_callS0 (N := 3) (As := [.int p3, .int 0, .int (x3 - 1)]) (st := []) C (fun _ => trivial) (mM_isIn l h1 z0 p3 0 (x3 - 1) r4 hr4) rfl w_698 w_53 (by decide +kernel) ⟨Nat.le_of_ble_eq_true rfl, Nat.le_of_ble_eq_true rfl⟩ rfl rfl (Nat.le_of_ble_eq_true rfl) ⟨Nat.zero_le _, Nat.zero_le _⟩ w_696 w_697 dM_code_24 ?_
    refine v_if_ne (tgt := 33) C dM_code_27 (by decide) ?_ ?_
    · refine v_aload_n C dM_code_33 rfl 0 rfl ?_
      refine v_iconst (v := 4) C dM_code_34 (by decide) ?_
      refine v_iload_n C dM_code_35 rfl 1 rfl ?_
      refine v_imul C dM_code_36 ?_
      refine v_iload_n C dM_code_37 rfl 2 rfl ?_
      refine v_iadd C dM_code_38 ?_
      refine v_iload_n C dM_code_39 rfl 3 rfl ?_
      refine v_gd fun hO5 => ?_
      refine v_bind fun r6 hr6 => ?_
      refine v_callV0 (N := 2) (As := [.int ((4 * p1) + p2), .int p3]) (st := []) C (fun f => f.elim) (mM_find l h1 z0 a0 ((4 * p1) + p2) p3 r6 hr6) rfl w_711 w_53 (by decide +kernel) ⟨Nat.le_of_ble_eq_true rfl, Nat.le_of_ble_eq_true rfl⟩ rfl rfl (Nat.le_of_ble_eq_true rfl) ⟨Nat.zero_le _, Nat.zero_le _⟩ w_708 w_710 w_25 v_cl5 rfl hO5 dM_code_40 ?_
      refine v_iload C dM_code_43 4 rfl ?_
      refine v_iconst (v := 0) C dM_code_45 (by decide) ?_
      refine v_aload_n C dM_code_46 rfl 0 rfl ?_
      refine v_getI C v_cl5 (by decide) in_5 rfl w_634 dM_code_47 (fun x7 => ?_)
      refine v_iconst (v := 1) C dM_code_50 (by decide) ?_
      refine v_isub C dM_code_51 ?_
      refine v_bind fun r8 hr8 => ?_
      refine v_callS0 (N := 3) (As := [.int p4, .int 0, .int (x7 - 1)]) (st := []) C (fun _ => trivial) (mM_isIn l r6 z0 p4 0 (x7 - 1) r8 hr8) rfl w_698 w_53 (by decide +kernel) ⟨Nat.le_of_ble_eq_true rfl, Nat.le_of_ble_eq_true rfl⟩ rfl rfl (Nat.le_of_ble_eq_true rfl) ⟨Nat.zero_le _, Nat.zero_le _⟩ w_696 w_697 dM_code_52 ?_
      refine v_jn (fun (j : Int32 → Option (Hp × Int32)) => ∀ (y9 : Int32), vO p l e (vR 4 0 0) s m args below meth c D dA (vA h0 z0) 5 False Q 0 0 r6 z0 [] 84 [.int y9] (j y9)) ?_ (fun j10 Hj10 => ?_)
      · intro y9
        exact v_iret C dM_code_84 (by rw [hQ])
      · refine v_if_ne (tgt := 62) C dM_code_55 (by decide) ?_ ?_
        · refine v_aload_n C dM_code_62 rfl 0 rfl ?_
          refine v_getR C v_cl5 (by decide) in_5 rfl w_633 dM_code_63 (fun a11 => ?_)
          refine v_aload_n C dM_code_66 rfl 0 rfl ?_
          refine v_getI C v_cl5 (by decide) in_5 rfl w_634 dM_code_67 (fun x12 => ?_)
          refine v_iconst (v := 1) C dM_code_70 (by decide) ?_
          refine v_isub C dM_code_71 ?_
          refine v_iload C dM_code_72 4 rfl ?_
          refine v_isub C dM_code_74 ?_
          refine v_zald C rfl dM_code_75 (fun x13 => ?_)
          refine v_if_eq (tgt := 83) C dM_code_76 (by decide) ?_ ?_
          · refine v_iconst (v := 0) C dM_code_83 (by decide) ?_
            refine v_lv (lv' := []) [] rfl ?_
            exact Hj10 0
          · refine v_iconst (v := 1) C dM_code_79 (by decide) ?_
            refine v_goto (tgt := 84) C dM_code_80 (by decide) ?_
            refine v_lv (lv' := []) [] rfl ?_
            exact Hj10 1
        · refine v_iconst (v := (-1)) C dM_code_58 (by decide) ?_
          refine v_goto (tgt := 84) C dM_code_59 (by decide) ?_
          refine v_lv (lv' := []) [] rfl ?_
          exact Hj10 (-1)
    · refine v_bipush (v := (-3)) C dM_code_30 (by decide) ?_
      exact v_iret C dM_code_32 (by rw [hQ])
  · refine v_bipush (v := (-2)) C dM_code_13 (by decide) ?_
    exact v_iret C dM_code_15 (by rw [hQ])
