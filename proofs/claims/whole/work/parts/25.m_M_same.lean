theorem dM_same_0 : decode prog_7_method_43_code 0 = .ok (.aload_n 0, 1) := by decide +kernel
theorem dM_same_1 : decode prog_7_method_43_code 1 = .ok (.iconst 0, 1) := by decide +kernel
theorem dM_same_2 : decode prog_7_method_43_code 2 = .ok (.putfield 73, 3) := by decide +kernel
theorem dM_same_5 : decode prog_7_method_43_code 5 = .ok (.iload_n 1, 1) := by decide +kernel
theorem dM_same_6 : decode prog_7_method_43_code 6 = .ok (.iconst 0, 1) := by decide +kernel
theorem dM_same_7 : decode prog_7_method_43_code 7 = .ok (.iconst 3, 1) := by decide +kernel
theorem dM_same_8 : decode prog_7_method_43_code 8 = .ok (.invokestatic 76, 3) := by decide +kernel
theorem dM_same_11 : decode prog_7_method_43_code 11 = .ok (.ifCond .ne 6, 3) := by decide +kernel
theorem dM_same_14 : decode prog_7_method_43_code 14 = .ok (.bipush (-2), 2) := by decide +kernel
theorem dM_same_16 : decode prog_7_method_43_code 16 = .ok (.ireturn, 1) := by decide +kernel
theorem dM_same_17 : decode prog_7_method_43_code 17 = .ok (.iconst 4, 1) := by decide +kernel
theorem dM_same_18 : decode prog_7_method_43_code 18 = .ok (.iload_n 1, 1) := by decide +kernel
theorem dM_same_19 : decode prog_7_method_43_code 19 = .ok (.iadd, 1) := by decide +kernel
theorem dM_same_20 : decode prog_7_method_43_code 20 = .ok (.istore_n 2, 1) := by decide +kernel
theorem dM_same_21 : decode prog_7_method_43_code 21 = .ok (.aload_n 0, 1) := by decide +kernel
theorem dM_same_22 : decode prog_7_method_43_code 22 = .ok (.getfield 7, 3) := by decide +kernel
theorem dM_same_25 : decode prog_7_method_43_code 25 = .ok (.iload_n 1, 1) := by decide +kernel
theorem dM_same_26 : decode prog_7_method_43_code 26 = .ok (.iaload, 1) := by decide +kernel
theorem dM_same_27 : decode prog_7_method_43_code 27 = .ok (.aload_n 0, 1) := by decide +kernel
theorem dM_same_28 : decode prog_7_method_43_code 28 = .ok (.getfield 7, 3) := by decide +kernel
theorem dM_same_31 : decode prog_7_method_43_code 31 = .ok (.iload_n 2, 1) := by decide +kernel
theorem dM_same_32 : decode prog_7_method_43_code 32 = .ok (.iaload, 1) := by decide +kernel
theorem dM_same_33 : decode prog_7_method_43_code 33 = .ok (.if_icmp .ne 22, 3) := by decide +kernel
theorem dM_same_36 : decode prog_7_method_43_code 36 = .ok (.aload_n 0, 1) := by decide +kernel
theorem dM_same_37 : decode prog_7_method_43_code 37 = .ok (.getfield 13, 3) := by decide +kernel
theorem dM_same_40 : decode prog_7_method_43_code 40 = .ok (.iload_n 1, 1) := by decide +kernel
theorem dM_same_41 : decode prog_7_method_43_code 41 = .ok (.iaload, 1) := by decide +kernel
theorem dM_same_42 : decode prog_7_method_43_code 42 = .ok (.aload_n 0, 1) := by decide +kernel
theorem dM_same_43 : decode prog_7_method_43_code 43 = .ok (.getfield 13, 3) := by decide +kernel
theorem dM_same_46 : decode prog_7_method_43_code 46 = .ok (.iload_n 2, 1) := by decide +kernel
theorem dM_same_47 : decode prog_7_method_43_code 47 = .ok (.iaload, 1) := by decide +kernel
theorem dM_same_48 : decode prog_7_method_43_code 48 = .ok (.if_icmp .ne 7, 3) := by decide +kernel
theorem dM_same_51 : decode prog_7_method_43_code 51 = .ok (.iconst 1, 1) := by decide +kernel
theorem dM_same_52 : decode prog_7_method_43_code 52 = .ok (.goto 4, 3) := by decide +kernel
theorem dM_same_55 : decode prog_7_method_43_code 55 = .ok (.iconst 0, 1) := by decide +kernel
theorem dM_same_56 : decode prog_7_method_43_code 56 = .ok (.istore_n 3, 1) := by decide +kernel
theorem dM_same_57 : decode prog_7_method_43_code 57 = .ok (.iconst 0, 1) := by decide +kernel
theorem dM_same_58 : decode prog_7_method_43_code 58 = .ok (.istore 4, 2) := by decide +kernel
theorem dM_same_60 : decode prog_7_method_43_code 60 = .ok (.iload 4, 2) := by decide +kernel
theorem dM_same_62 : decode prog_7_method_43_code 62 = .ok (.aload_n 0, 1) := by decide +kernel
theorem dM_same_63 : decode prog_7_method_43_code 63 = .ok (.getfield 13, 3) := by decide +kernel
theorem dM_same_66 : decode prog_7_method_43_code 66 = .ok (.iload_n 1, 1) := by decide +kernel
theorem dM_same_67 : decode prog_7_method_43_code 67 = .ok (.iaload, 1) := by decide +kernel
theorem dM_same_68 : decode prog_7_method_43_code 68 = .ok (.if_icmp .ge 146, 3) := by decide +kernel
theorem dM_same_71 : decode prog_7_method_43_code 71 = .ok (.iload_n 3, 1) := by decide +kernel
theorem dM_same_72 : decode prog_7_method_43_code 72 = .ok (.ifCond .eq 142, 3) := by decide +kernel
theorem dM_same_75 : decode prog_7_method_43_code 75 = .ok (.aload_n 0, 1) := by decide +kernel
theorem dM_same_76 : decode prog_7_method_43_code 76 = .ok (.getfield 7, 3) := by decide +kernel
theorem dM_same_79 : decode prog_7_method_43_code 79 = .ok (.iload_n 1, 1) := by decide +kernel
theorem dM_same_80 : decode prog_7_method_43_code 80 = .ok (.iaload, 1) := by decide +kernel
theorem dM_same_81 : decode prog_7_method_43_code 81 = .ok (.ifCond .ne 63, 3) := by decide +kernel
theorem dM_same_84 : decode prog_7_method_43_code 84 = .ok (.aload_n 0, 1) := by decide +kernel
theorem dM_same_85 : decode prog_7_method_43_code 85 = .ok (.iload_n 1, 1) := by decide +kernel
theorem dM_same_86 : decode prog_7_method_43_code 86 = .ok (.iload 4, 2) := by decide +kernel
theorem dM_same_88 : decode prog_7_method_43_code 88 = .ok (.invokevirtual 94, 3) := by decide +kernel
theorem dM_same_91 : decode prog_7_method_43_code 91 = .ok (.aload_n 0, 1) := by decide +kernel
theorem dM_same_92 : decode prog_7_method_43_code 92 = .ok (.iload_n 2, 1) := by decide +kernel
theorem dM_same_93 : decode prog_7_method_43_code 93 = .ok (.iload 4, 2) := by decide +kernel
theorem dM_same_95 : decode prog_7_method_43_code 95 = .ok (.invokevirtual 94, 3) := by decide +kernel
theorem dM_same_98 : decode prog_7_method_43_code 98 = .ok (.if_icmp .ne 41, 3) := by decide +kernel
theorem dM_same_101 : decode prog_7_method_43_code 101 = .ok (.aload_n 0, 1) := by decide +kernel
theorem dM_same_102 : decode prog_7_method_43_code 102 = .ok (.iload_n 1, 1) := by decide +kernel
theorem dM_same_103 : decode prog_7_method_43_code 103 = .ok (.iload 4, 2) := by decide +kernel
theorem dM_same_105 : decode prog_7_method_43_code 105 = .ok (.invokevirtual 101, 3) := by decide +kernel
theorem dM_same_108 : decode prog_7_method_43_code 108 = .ok (.aload_n 0, 1) := by decide +kernel
theorem dM_same_109 : decode prog_7_method_43_code 109 = .ok (.iload_n 2, 1) := by decide +kernel
theorem dM_same_110 : decode prog_7_method_43_code 110 = .ok (.iload 4, 2) := by decide +kernel
theorem dM_same_112 : decode prog_7_method_43_code 112 = .ok (.invokevirtual 101, 3) := by decide +kernel
theorem dM_same_115 : decode prog_7_method_43_code 115 = .ok (.if_icmp .ne 24, 3) := by decide +kernel
theorem dM_same_118 : decode prog_7_method_43_code 118 = .ok (.aload_n 0, 1) := by decide +kernel
theorem dM_same_119 : decode prog_7_method_43_code 119 = .ok (.iload_n 1, 1) := by decide +kernel
theorem dM_same_120 : decode prog_7_method_43_code 120 = .ok (.iload 4, 2) := by decide +kernel
theorem dM_same_122 : decode prog_7_method_43_code 122 = .ok (.invokevirtual 91, 3) := by decide +kernel
theorem dM_same_125 : decode prog_7_method_43_code 125 = .ok (.aload_n 0, 1) := by decide +kernel
theorem dM_same_126 : decode prog_7_method_43_code 126 = .ok (.iload_n 2, 1) := by decide +kernel
theorem dM_same_127 : decode prog_7_method_43_code 127 = .ok (.iload 4, 2) := by decide +kernel
theorem dM_same_129 : decode prog_7_method_43_code 129 = .ok (.invokevirtual 91, 3) := by decide +kernel
theorem dM_same_132 : decode prog_7_method_43_code 132 = .ok (.if_icmp .ne 7, 3) := by decide +kernel
theorem dM_same_135 : decode prog_7_method_43_code 135 = .ok (.iconst 1, 1) := by decide +kernel
theorem dM_same_136 : decode prog_7_method_43_code 136 = .ok (.goto 4, 3) := by decide +kernel
theorem dM_same_139 : decode prog_7_method_43_code 139 = .ok (.iconst 0, 1) := by decide +kernel
theorem dM_same_140 : decode prog_7_method_43_code 140 = .ok (.istore_n 3, 1) := by decide +kernel
theorem dM_same_141 : decode prog_7_method_43_code 141 = .ok (.goto 67, 3) := by decide +kernel
theorem dM_same_144 : decode prog_7_method_43_code 144 = .ok (.aload_n 0, 1) := by decide +kernel
theorem dM_same_145 : decode prog_7_method_43_code 145 = .ok (.getfield 35, 3) := by decide +kernel
theorem dM_same_148 : decode prog_7_method_43_code 148 = .ok (.sipush 129, 3) := by decide +kernel
theorem dM_same_151 : decode prog_7_method_43_code 151 = .ok (.iload_n 1, 1) := by decide +kernel
theorem dM_same_152 : decode prog_7_method_43_code 152 = .ok (.imul, 1) := by decide +kernel
theorem dM_same_153 : decode prog_7_method_43_code 153 = .ok (.iload 4, 2) := by decide +kernel
theorem dM_same_155 : decode prog_7_method_43_code 155 = .ok (.iadd, 1) := by decide +kernel
theorem dM_same_156 : decode prog_7_method_43_code 156 = .ok (.iaload, 1) := by decide +kernel
theorem dM_same_157 : decode prog_7_method_43_code 157 = .ok (.aload_n 0, 1) := by decide +kernel
theorem dM_same_158 : decode prog_7_method_43_code 158 = .ok (.getfield 35, 3) := by decide +kernel
theorem dM_same_161 : decode prog_7_method_43_code 161 = .ok (.sipush 129, 3) := by decide +kernel
theorem dM_same_164 : decode prog_7_method_43_code 164 = .ok (.iload_n 2, 1) := by decide +kernel
theorem dM_same_165 : decode prog_7_method_43_code 165 = .ok (.imul, 1) := by decide +kernel
theorem dM_same_166 : decode prog_7_method_43_code 166 = .ok (.iload 4, 2) := by decide +kernel
theorem dM_same_168 : decode prog_7_method_43_code 168 = .ok (.iadd, 1) := by decide +kernel
theorem dM_same_169 : decode prog_7_method_43_code 169 = .ok (.iaload, 1) := by decide +kernel
theorem dM_same_170 : decode prog_7_method_43_code 170 = .ok (.if_icmp .ne 36, 3) := by decide +kernel
theorem dM_same_173 : decode prog_7_method_43_code 173 = .ok (.aload_n 0, 1) := by decide +kernel
theorem dM_same_174 : decode prog_7_method_43_code 174 = .ok (.getfield 38, 3) := by decide +kernel
theorem dM_same_177 : decode prog_7_method_43_code 177 = .ok (.sipush 129, 3) := by decide +kernel
theorem dM_same_180 : decode prog_7_method_43_code 180 = .ok (.iload_n 1, 1) := by decide +kernel
theorem dM_same_181 : decode prog_7_method_43_code 181 = .ok (.imul, 1) := by decide +kernel
theorem dM_same_182 : decode prog_7_method_43_code 182 = .ok (.iload 4, 2) := by decide +kernel
theorem dM_same_184 : decode prog_7_method_43_code 184 = .ok (.iadd, 1) := by decide +kernel
theorem dM_same_185 : decode prog_7_method_43_code 185 = .ok (.baload, 1) := by decide +kernel
theorem dM_same_186 : decode prog_7_method_43_code 186 = .ok (.aload_n 0, 1) := by decide +kernel
theorem dM_same_187 : decode prog_7_method_43_code 187 = .ok (.getfield 38, 3) := by decide +kernel
theorem dM_same_190 : decode prog_7_method_43_code 190 = .ok (.sipush 129, 3) := by decide +kernel
theorem dM_same_193 : decode prog_7_method_43_code 193 = .ok (.iload_n 2, 1) := by decide +kernel
theorem dM_same_194 : decode prog_7_method_43_code 194 = .ok (.imul, 1) := by decide +kernel
theorem dM_same_195 : decode prog_7_method_43_code 195 = .ok (.iload 4, 2) := by decide +kernel
theorem dM_same_197 : decode prog_7_method_43_code 197 = .ok (.iadd, 1) := by decide +kernel
theorem dM_same_198 : decode prog_7_method_43_code 198 = .ok (.baload, 1) := by decide +kernel
theorem dM_same_199 : decode prog_7_method_43_code 199 = .ok (.if_icmp .ne 7, 3) := by decide +kernel
theorem dM_same_202 : decode prog_7_method_43_code 202 = .ok (.iconst 1, 1) := by decide +kernel
theorem dM_same_203 : decode prog_7_method_43_code 203 = .ok (.goto 4, 3) := by decide +kernel
theorem dM_same_206 : decode prog_7_method_43_code 206 = .ok (.iconst 0, 1) := by decide +kernel
theorem dM_same_207 : decode prog_7_method_43_code 207 = .ok (.istore_n 3, 1) := by decide +kernel
theorem dM_same_208 : decode prog_7_method_43_code 208 = .ok (.iinc 4 1, 3) := by decide +kernel
theorem dM_same_211 : decode prog_7_method_43_code 211 = .ok (.goto (-151), 3) := by decide +kernel
theorem dM_same_214 : decode prog_7_method_43_code 214 = .ok (.iload_n 3, 1) := by decide +kernel
theorem dM_same_215 : decode prog_7_method_43_code 215 = .ok (.ifCond .eq 7, 3) := by decide +kernel
theorem dM_same_218 : decode prog_7_method_43_code 218 = .ok (.iconst 1, 1) := by decide +kernel
theorem dM_same_219 : decode prog_7_method_43_code 219 = .ok (.goto 4, 3) := by decide +kernel
theorem dM_same_222 : decode prog_7_method_43_code 222 = .ok (.iconst 0, 1) := by decide +kernel
theorem dM_same_223 : decode prog_7_method_43_code 223 = .ok (.ireturn, 1) := by decide +kernel
def LM_same_60 (a0 : Nat) (p1 : Int32) (h1 : Hp) (K10 : Int32 → Option (Hp × Int32)) (rec15 : Int32 → Int32 → Option (Hp × Int32)) (x13 : Int32) (x14 : Int32) : Option (Hp × Int32) :=
  gR h1 a0 5 4 (fun a16 =>
  ldI h1 a16 0 p1 (fun x17 =>
  if x17 ≤ x14 then
    (K10 x13)
  else
    (if x13 = 0 then
      (K10 x13)
    else
      (gR h1 a0 5 3 (fun a18 =>
      ldI h1 a18 0 p1 (fun x19 =>
      jn (fun (x20 : Int32) =>
      rec15 x20 (x14 + 1))
      (fun (j21 : Int32 → Option (Hp × Int32)) =>
      if x19 = 0 then
        (gd (isO h1 a0 5 = true) ((FM_countAt h1 a0 p1 x14).bind (fun r34 =>
        gd (isO h1 a0 5 = true) ((FM_countAt h1 a0 (4 + p1) x14).bind (fun r36 =>
        jn (fun (y37 : Int32) =>
        j21 y37)
        (fun (j38 : Int32 → Option (Hp × Int32)) =>
        jn (j38 0)
        (fun (j39 : Option (Hp × Int32)) =>
        if r34 = r36 then
          (gd (isO h1 a0 5 = true) ((FM_signAt h1 a0 p1 x14).bind (fun r41 =>
          gd (isO h1 a0 5 = true) ((FM_signAt h1 a0 (4 + p1) x14).bind (fun r43 =>
          if r41 = r43 then
            (gd (isO h1 a0 5 = true) ((FM_above h1 a0 p1 x14).bind (fun r45 =>
            gd (isO h1 a0 5 = true) ((FM_above h1 a0 (4 + p1) x14).bind (fun r47 =>
            if r45 = r47 then
              (j38 1)
            else
              (j39))))))
          else
            (j39))))))
        else
          (j39))))))))
      else
        (gR h1 a0 5 11 (fun a22 =>
        ldI h1 a22 0 ((129 * p1) + x14) (fun x23 =>
        gR h1 a0 5 11 (fun a24 =>
        ldI h1 a24 0 ((129 * (4 + p1)) + x14) (fun x25 =>
        jn (fun (y26 : Int32) =>
        j21 y26)
        (fun (j27 : Int32 → Option (Hp × Int32)) =>
        jn (j27 0)
        (fun (j28 : Option (Hp × Int32)) =>
        if x23 = x25 then
          (gR h1 a0 5 12 (fun a29 =>
          ldI h1 a29 1 ((129 * p1) + x14) (fun x30 =>
          gR h1 a0 5 12 (fun a31 =>
          ldI h1 a31 1 ((129 * (4 + p1)) + x14) (fun x32 =>
          if x30 = x32 then
            (j27 1)
          else
            (j28))))))
        else
          (j28)))))))))))))))
def FM_same (h0 : Hp) (a0 : Nat) (p1 : Int32) : Option (Hp × Int32) :=
  pF h0 a0 5 20 (.int 0) (fun h1 =>
  (FM_isIn h1 p1 0 3).bind (fun r2 =>
  if r2 = 0 then
    (some (h1, (-2)))
  else
    (gR h1 a0 5 3 (fun a3 =>
    ldI h1 a3 0 p1 (fun x4 =>
    gR h1 a0 5 3 (fun a5 =>
    ldI h1 a5 0 (4 + p1) (fun x6 =>
    jn (fun (y7 : Int32) =>
    jn (fun (x9 : Int32) =>
    jn (fun (y11 : Int32) =>
    some (h1, y11))
    (fun (j12 : Int32 → Option (Hp × Int32)) =>
    if x9 = 0 then
      (j12 0)
    else
      (j12 1)))
    (fun (K10 : Int32 → Option (Hp × Int32)) =>
    lpG (fun _ _ => none) fu (LM_same_60 a0 p1 h1 K10) y7 0))
    (fun (j8 : Int32 → Option (Hp × Int32)) =>
    jn (j8 0)
    (fun (j48 : Option (Hp × Int32)) =>
    if x4 = x6 then
      (gR h1 a0 5 4 (fun a49 =>
      ldI h1 a49 0 p1 (fun x50 =>
      gR h1 a0 5 4 (fun a51 =>
      ldI h1 a51 0 (4 + p1) (fun x52 =>
      if x50 = x52 then
        (j8 1)
      else
        (j48))))))
    else
      (j48))))))))))
set_option maxRecDepth 100000 in
set_option maxHeartbeats 4000000 in
theorem mM_same (l : Launch) (h0 : Hp) (z0 : Nat) (a0 : Nat) (p1 : Int32) (r : (Hp × Int32)) (hr : FM_same h0 a0 p1 = some r) : vM False l yM_same (Cond.code yM_same prog_7_method_43_code 5 (some (.int)) :: gW) 2 [.ref a0, .int p1] h0 z0 r.1 z0 (some (.int r.2)) 0 0 := by
  refine vM.of (by decide) rfl (Nat.le_of_ble_eq_true rfl) ?_
  intro p e s m args below meth c D dA C hin2
  refine (?_ : vO p l e (vR 2 0 0) s m args below meth c D dA (vA h0 z0) 5 False (fun r : (Hp × Int32) => MQ below (vQc False h0 z0 D dA r.1 z0 (some (.int r.2))) args s 0 0 (vAr False h0 z0)) 0 0 h0 z0 [(0, .ref a0), (1, .int p1)] 0 [] (FM_same h0 a0 p1)) r hr
  obtain ⟨Q, hQ⟩ : ∃ Q : (Hp × Int32) → State → Prop, Q = (fun r : (Hp × Int32) => MQ below (vQc False h0 z0 D dA r.1 z0 (some (.int r.2))) args s 0 0 (vAr False h0 z0)) := ⟨_, rfl⟩
  rw [← hQ]
  unfold FM_same
  refine v_aload_n C dM_same_0 rfl 0 rfl ?_
  refine v_iconst (v := 0) C dM_same_1 (by decide) ?_
  refine v_put C v_cl5 (by decide) in_5 ty_5 ty_5_ok nm_5 rfl w_629 rfl (ty := .int) (by decide +kernel) rfl rfl dM_same_2 (fun h1 => ?_)
  refine v_iload_n C dM_same_5 rfl 1 rfl ?_
  refine v_iconst (v := 0) C dM_same_6 (by decide) ?_
  refine v_iconst (v := 3) C dM_same_7 (by decide) ?_
  refine v_bind fun r2 hr2 => ?_
  refine v_callS0 (N := 3) (As := [.int p1, .int 0, .int 3]) (st := []) C (fun _ => trivial) (mM_isIn l h1 z0 p1 0 3 r2 hr2) rfl w_698 w_53 (by decide +kernel) ⟨Nat.le_of_ble_eq_true rfl, Nat.le_of_ble_eq_true rfl⟩ rfl rfl (Nat.le_of_ble_eq_true rfl) ⟨Nat.zero_le _, Nat.zero_le _⟩ w_696 w_697 dM_same_8 ?_
  refine v_if_ne (tgt := 17) C dM_same_11 (by decide) ?_ ?_
  · refine v_iconst (v := 4) C dM_same_17 (by decide) ?_
    refine v_iload_n C dM_same_18 rfl 1 rfl ?_
    refine v_iadd C dM_same_19 ?_
    refine v_istore_n (lv' := [(0, .ref a0), (1, .int p1), (2, .int (4 + p1))]) C dM_same_20 rfl (by decide) [1, 2, 0] rfl ?_
    refine v_aload_n C dM_same_21 rfl 0 rfl ?_
    refine v_getR C v_cl5 (by decide) in_5 rfl w_612 dM_same_22 (fun a3 => ?_)
    refine v_iload_n C dM_same_25 rfl 1 rfl ?_
    refine v_iald C rfl dM_same_26 (fun x4 => ?_)
    refine v_aload_n C dM_same_27 rfl 0 rfl ?_
    refine v_getR C v_cl5 (by decide) in_5 rfl w_612 dM_same_28 (fun a5 => ?_)
    refine v_iload_n C dM_same_31 rfl 2 rfl ?_
    refine v_iald C rfl dM_same_32 (fun x6 => ?_)
    refine v_jn (fun (j : Int32 → Option (Hp × Int32)) => ∀ (y7 : Int32), vO p l e (vR 2 0 0) s m args below meth c D dA (vA h0 z0) 5 False Q 0 0 h1 z0 [(0, .ref a0), (1, .int p1), (2, .int (4 + p1))] 56 [.int y7] (j y7)) ?_ (fun j8 Hj8 => ?_)
    · intro y7
      refine v_istore_n (lv' := [(0, .ref a0), (1, .int p1), (2, .int (4 + p1)), (3, .int y7)]) C dM_same_56 rfl (by decide) [1, 2, 3, 0] rfl ?_
      refine v_iconst (v := 0) C dM_same_57 (by decide) ?_
      refine v_istore (lv' := [(0, .ref a0), (1, .int p1), (2, .int (4 + p1)), (3, .int y7), (4, .int 0)]) C dM_same_58 (by decide) [1, 2, 3, 4, 0] rfl ?_
      refine v_jn (fun (j : Int32 → Option (Hp × Int32)) => ∀ (x9 : Int32), vO p l e (vR 2 0 0) s m args below meth c D dA (vA h0 z0) 5 False Q 0 0 h1 z0 [(3, .int x9)] 214 [] (j x9)) ?_ (fun K10 HK10 => ?_)
      · intro x9
        refine v_iload_n C dM_same_214 rfl 0 rfl ?_
        refine v_jn (fun (j : Int32 → Option (Hp × Int32)) => ∀ (y11 : Int32), vO p l e (vR 2 0 0) s m args below meth c D dA (vA h0 z0) 5 False Q 0 0 h1 z0 [] 223 [.int y11] (j y11)) ?_ (fun j12 Hj12 => ?_)
        · intro y11
          exact v_iret C dM_same_223 (by rw [hQ])
        · refine v_if_eq (tgt := 222) C dM_same_215 (by decide) ?_ ?_
          · refine v_iconst (v := 0) C dM_same_222 (by decide) ?_
            refine v_lv (lv' := []) [] rfl ?_
            exact Hj12 0
          · refine v_iconst (v := 1) C dM_same_218 (by decide) ?_
            refine v_goto (tgt := 223) C dM_same_219 (by decide) ?_
            refine v_lv (lv' := []) [] rfl ?_
            exact Hj12 1
      · refine lpG_ind (bot := (fun _ _ => none)) (B := LM_same_60 a0 p1 h1 K10) (fun (r : Int32 → Int32 → Option (Hp × Int32)) => ∀ (x13 : Int32), ∀ (x14 : Int32), vO p l e (vR 2 0 0) s m args below meth c D dA (vA h0 z0) 5 False Q 0 0 h1 z0 [(0, .ref a0), (1, .int p1), (2, .int (4 + p1)), (3, .int x13), (4, .int x14)] 60 [] (r x13 x14)) ?_ ?_ fu y7 0
        · intro x13 x14
          exact v_none
        · intro rec15 Hrec15 x13 x14
          unfold LM_same_60
          refine v_iload C dM_same_60 4 rfl ?_
          refine v_aload_n C dM_same_62 rfl 0 rfl ?_
          refine v_getR C v_cl5 (by decide) in_5 rfl w_613 dM_same_63 (fun a16 => ?_)
          refine v_iload_n C dM_same_66 rfl 1 rfl ?_
          refine v_iald C rfl dM_same_67 (fun x17 => ?_)
          refine v_icmp_ge (tgt := 214) C dM_same_68 (by decide) ?_ ?_
          · refine v_lv (lv' := [(3, .int x13)]) [3] rfl ?_
            exact HK10 x13
          · refine v_iload_n C dM_same_71 rfl 3 rfl ?_
            refine v_if_eq (tgt := 214) C dM_same_72 (by decide) ?_ ?_
            · refine v_lv (lv' := [(3, .int x13)]) [3] rfl ?_
              exact HK10 x13
            · refine v_aload_n C dM_same_75 rfl 0 rfl ?_
              refine v_getR C v_cl5 (by decide) in_5 rfl w_612 dM_same_76 (fun a18 => ?_)
              refine v_iload_n C dM_same_79 rfl 1 rfl ?_
              refine v_iald C rfl dM_same_80 (fun x19 => ?_)
              refine v_jn (fun (j : Int32 → Option (Hp × Int32)) => ∀ (x20 : Int32), vO p l e (vR 2 0 0) s m args below meth c D dA (vA h0 z0) 5 False Q 0 0 h1 z0 [(0, .ref a0), (1, .int p1), (2, .int (4 + p1)), (3, .int x20), (4, .int x14)] 208 [] (j x20)) ?_ (fun j21 Hj21 => ?_)
              · intro x20
                refine v_iinc (v := (x14 + 1)) (lv' := [(0, .ref a0), (1, .int p1), (2, .int (4 + p1)), (3, .int x20), (4, .int (x14 + 1))]) C dM_same_208 4 rfl rfl (by decide) [1, 2, 3, 4, 0] rfl ?_
                refine v_goto (tgt := 60) C dM_same_211 (by decide) ?_
                exact Hrec15 x20 (x14 + 1)
              · refine v_if_ne (tgt := 144) C dM_same_81 (by decide) ?_ ?_
                · refine v_aload_n C dM_same_144 rfl 0 rfl ?_
                  refine v_getR C v_cl5 (by decide) in_5 rfl w_620 dM_same_145 (fun a22 => ?_)
                  refine v_sipush (v := 129) C dM_same_148 (by decide) ?_
                  refine v_iload_n C dM_same_151 rfl 1 rfl ?_
                  refine v_imul C dM_same_152 ?_
                  refine v_iload C dM_same_153 4 rfl ?_
                  refine v_iadd C dM_same_155 ?_
                  refine v_iald C rfl dM_same_156 (fun x23 => ?_)
                  refine v_aload_n C dM_same_157 rfl 0 rfl ?_
                  refine v_getR C v_cl5 (by decide) in_5 rfl w_620 dM_same_158 (fun a24 => ?_)
                  refine v_sipush (v := 129) C dM_same_161 (by decide) ?_
                  refine v_iload_n C dM_same_164 rfl 2 rfl ?_
                  refine v_imul C dM_same_165 ?_
                  refine v_iload C dM_same_166 4 rfl ?_
                  refine v_iadd C dM_same_168 ?_
                  refine v_iald C rfl dM_same_169 (fun x25 => ?_)
                  refine v_jn (fun (j : Int32 → Option (Hp × Int32)) => ∀ (y26 : Int32), vO p l e (vR 2 0 0) s m args below meth c D dA (vA h0 z0) 5 False Q 0 0 h1 z0 [(0, .ref a0), (1, .int p1), (2, .int (4 + p1)), (4, .int x14)] 207 [.int y26] (j y26)) ?_ (fun j27 Hj27 => ?_)
                  · intro y26
                    refine v_istore_n (lv' := [(0, .ref a0), (1, .int p1), (2, .int (4 + p1)), (3, .int y26), (4, .int x14)]) C dM_same_207 rfl (by decide) [1, 2, 3, 0, 4] rfl ?_
                    exact Hj21 y26
                  · refine v_jn (fun (j : Option (Hp × Int32)) => vO p l e (vR 2 0 0) s m args below meth c D dA (vA h0 z0) 5 False Q 0 0 h1 z0 [(0, .ref a0), (1, .int p1), (2, .int (4 + p1)), (4, .int x14)] 206 [] j) ?_ (fun j28 Hj28 => ?_)
                    · refine v_iconst (v := 0) C dM_same_206 (by decide) ?_
                      exact Hj27 0
                    · refine v_icmp_ne (tgt := 206) C dM_same_170 (by decide) ?_ ?_
                      · refine v_lv (lv' := [(0, .ref a0), (1, .int p1), (2, .int (4 + p1)), (4, .int x14)]) [0, 1, 2, 4] rfl ?_
                        exact Hj28
                      · refine v_aload_n C dM_same_173 rfl 0 rfl ?_
                        refine v_getR C v_cl5 (by decide) in_5 rfl w_621 dM_same_174 (fun a29 => ?_)
                        refine v_sipush (v := 129) C dM_same_177 (by decide) ?_
                        refine v_iload_n C dM_same_180 rfl 1 rfl ?_
                        refine v_imul C dM_same_181 ?_
                        refine v_iload C dM_same_182 4 rfl ?_
                        refine v_iadd C dM_same_184 ?_
                        refine v_zald C rfl dM_same_185 (fun x30 => ?_)
                        refine v_aload_n C dM_same_186 rfl 0 rfl ?_
                        refine v_getR C v_cl5 (by decide) in_5 rfl w_621 dM_same_187 (fun a31 => ?_)
                        refine v_sipush (v := 129) C dM_same_190 (by decide) ?_
                        refine v_iload_n C dM_same_193 rfl 2 rfl ?_
                        refine v_imul C dM_same_194 ?_
                        refine v_iload C dM_same_195 4 rfl ?_
                        refine v_iadd C dM_same_197 ?_
                        refine v_zald C rfl dM_same_198 (fun x32 => ?_)
                        refine v_icmp_ne (tgt := 206) C dM_same_199 (by decide) ?_ ?_
                        · refine v_lv (lv' := [(0, .ref a0), (1, .int p1), (2, .int (4 + p1)), (4, .int x14)]) [0, 1, 2, 4] rfl ?_
                          exact Hj28
                        · refine v_iconst (v := 1) C dM_same_202 (by decide) ?_
                          refine v_goto (tgt := 207) C dM_same_203 (by decide) ?_
                          refine v_lv (lv' := [(0, .ref a0), (1, .int p1), (2, .int (4 + p1)), (4, .int x14)]) [0, 1, 2, 4] rfl ?_
                          exact Hj27 1
                · refine v_aload_n C dM_same_84 rfl 0 rfl ?_
                  refine v_iload_n C dM_same_85 rfl 1 rfl ?_
                  refine v_iload C dM_same_86 4 rfl ?_
                  refine v_gd fun hO33 => ?_
                  refine v_bind fun r34 hr34 => ?_
                  refine v_callV0 (N := 2) (As := [.int p1, .int x14]) (st := []) C (fun _ => trivial) (mM_countAt l h1 z0 a0 p1 x14 r34 hr34) rfl w_751 w_53 (by decide +kernel) ⟨Nat.le_of_ble_eq_true rfl, Nat.le_of_ble_eq_true rfl⟩ rfl rfl (Nat.le_of_ble_eq_true rfl) ⟨Nat.zero_le _, Nat.zero_le _⟩ w_748 w_750 w_35 v_cl5 rfl hO33 dM_same_88 ?_
                  refine v_aload_n C dM_same_91 rfl 0 rfl ?_
                  refine v_iload_n C dM_same_92 rfl 2 rfl ?_
                  refine v_iload C dM_same_93 4 rfl ?_
                  refine v_gd fun hO35 => ?_
                  refine v_bind fun r36 hr36 => ?_
                  refine v_callV0 (N := 2) (As := [.int (4 + p1), .int x14]) (st := [.int r34]) C (fun _ => trivial) (mM_countAt l h1 z0 a0 (4 + p1) x14 r36 hr36) rfl w_751 w_53 (by decide +kernel) ⟨Nat.le_of_ble_eq_true rfl, Nat.le_of_ble_eq_true rfl⟩ rfl rfl (Nat.le_of_ble_eq_true rfl) ⟨Nat.zero_le _, Nat.zero_le _⟩ w_748 w_750 w_35 v_cl5 rfl hO35 dM_same_95 ?_
                  refine v_jn (fun (j : Int32 → Option (Hp × Int32)) => ∀ (y37 : Int32), vO p l e (vR 2 0 0) s m args below meth c D dA (vA h0 z0) 5 False Q 0 0 h1 z0 [(0, .ref a0), (1, .int p1), (2, .int (4 + p1)), (4, .int x14)] 140 [.int y37] (j y37)) ?_ (fun j38 Hj38 => ?_)
                  · intro y37
                    refine v_istore_n (lv' := [(0, .ref a0), (1, .int p1), (2, .int (4 + p1)), (3, .int y37), (4, .int x14)]) C dM_same_140 rfl (by decide) [1, 2, 3, 0, 4] rfl ?_
                    refine v_goto (tgt := 208) C dM_same_141 (by decide) ?_
                    exact Hj21 y37
                  · refine v_jn (fun (j : Option (Hp × Int32)) => vO p l e (vR 2 0 0) s m args below meth c D dA (vA h0 z0) 5 False Q 0 0 h1 z0 [(0, .ref a0), (1, .int p1), (2, .int (4 + p1)), (4, .int x14)] 139 [] j) ?_ (fun j39 Hj39 => ?_)
                    · refine v_iconst (v := 0) C dM_same_139 (by decide) ?_
                      exact Hj38 0
                    · refine v_icmp_ne (tgt := 139) C dM_same_98 (by decide) ?_ ?_
                      · refine v_lv (lv' := [(0, .ref a0), (1, .int p1), (2, .int (4 + p1)), (4, .int x14)]) [0, 1, 2, 4] rfl ?_
                        exact Hj39
                      · refine v_aload_n C dM_same_101 rfl 0 rfl ?_
                        refine v_iload_n C dM_same_102 rfl 1 rfl ?_
                        refine v_iload C dM_same_103 4 rfl ?_
                        refine v_gd fun hO40 => ?_
                        refine v_bind fun r41 hr41 => ?_
                        refine v_callV0 (N := 2) (As := [.int p1, .int x14]) (st := []) C (fun _ => trivial) (mM_signAt l h1 z0 a0 p1 x14 r41 hr41) rfl w_759 w_53 (by decide +kernel) ⟨Nat.le_of_ble_eq_true rfl, Nat.le_of_ble_eq_true rfl⟩ rfl rfl (Nat.le_of_ble_eq_true rfl) ⟨Nat.zero_le _, Nat.zero_le _⟩ w_756 w_758 w_37 v_cl5 rfl hO40 dM_same_105 ?_
                        refine v_aload_n C dM_same_108 rfl 0 rfl ?_
                        refine v_iload_n C dM_same_109 rfl 2 rfl ?_
                        refine v_iload C dM_same_110 4 rfl ?_
                        refine v_gd fun hO42 => ?_
                        refine v_bind fun r43 hr43 => ?_
                        refine v_callV0 (N := 2) (As := [.int (4 + p1), .int x14]) (st := [.int r41]) C (fun _ => trivial) (mM_signAt l h1 z0 a0 (4 + p1) x14 r43 hr43) rfl w_759 w_53 (by decide +kernel) ⟨Nat.le_of_ble_eq_true rfl, Nat.le_of_ble_eq_true rfl⟩ rfl rfl (Nat.le_of_ble_eq_true rfl) ⟨Nat.zero_le _, Nat.zero_le _⟩ w_756 w_758 w_37 v_cl5 rfl hO42 dM_same_112 ?_
                        refine v_icmp_ne (tgt := 139) C dM_same_115 (by decide) ?_ ?_
                        · refine v_lv (lv' := [(0, .ref a0), (1, .int p1), (2, .int (4 + p1)), (4, .int x14)]) [0, 1, 2, 4] rfl ?_
                          exact Hj39
                        · refine v_aload_n C dM_same_118 rfl 0 rfl ?_
                          refine v_iload_n C dM_same_119 rfl 1 rfl ?_
                          refine v_iload C dM_same_120 4 rfl ?_
                          refine v_gd fun hO44 => ?_
                          refine v_bind fun r45 hr45 => ?_
                          refine v_callV0 (N := 2) (As := [.int p1, .int x14]) (st := []) C (fun _ => trivial) (mM_above l h1 z0 a0 p1 x14 r45 hr45) rfl w_735 w_53 (by decide +kernel) ⟨Nat.le_of_ble_eq_true rfl, Nat.le_of_ble_eq_true rfl⟩ rfl rfl (Nat.le_of_ble_eq_true rfl) ⟨Nat.zero_le _, Nat.zero_le _⟩ w_732 w_734 w_31 v_cl5 rfl hO44 dM_same_122 ?_
                          refine v_aload_n C dM_same_125 rfl 0 rfl ?_
                          refine v_iload_n C dM_same_126 rfl 2 rfl ?_
                          refine v_iload C dM_same_127 4 rfl ?_
                          refine v_gd fun hO46 => ?_
                          refine v_bind fun r47 hr47 => ?_
                          refine v_callV0 (N := 2) (As := [.int (4 + p1), .int x14]) (st := [.int r45]) C (fun _ => trivial) (mM_above l h1 z0 a0 (4 + p1) x14 r47 hr47) rfl w_735 w_53 (by decide +kernel) ⟨Nat.le_of_ble_eq_true rfl, Nat.le_of_ble_eq_true rfl⟩ rfl rfl (Nat.le_of_ble_eq_true rfl) ⟨Nat.zero_le _, Nat.zero_le _⟩ w_732 w_734 w_31 v_cl5 rfl hO46 dM_same_129 ?_
                          refine v_icmp_ne (tgt := 139) C dM_same_132 (by decide) ?_ ?_
                          · refine v_lv (lv' := [(0, .ref a0), (1, .int p1), (2, .int (4 + p1)), (4, .int x14)]) [0, 1, 2, 4] rfl ?_
                            exact Hj39
                          · refine v_iconst (v := 1) C dM_same_135 (by decide) ?_
                            refine v_goto (tgt := 140) C dM_same_136 (by decide) ?_
                            refine v_lv (lv' := [(0, .ref a0), (1, .int p1), (2, .int (4 + p1)), (4, .int x14)]) [0, 1, 2, 4] rfl ?_
                            exact Hj38 1
    · refine v_jn (fun (j : Option (Hp × Int32)) => vO p l e (vR 2 0 0) s m args below meth c D dA (vA h0 z0) 5 False Q 0 0 h1 z0 [(0, .ref a0), (1, .int p1), (2, .int (4 + p1))] 55 [] j) ?_ (fun j48 Hj48 => ?_)
      · refine v_iconst (v := 0) C dM_same_55 (by decide) ?_
        exact Hj8 0
      · refine v_icmp_ne (tgt := 55) C dM_same_33 (by decide) ?_ ?_
        · exact Hj48
        · refine v_aload_n C dM_same_36 rfl 0 rfl ?_
          refine v_getR C v_cl5 (by decide) in_5 rfl w_613 dM_same_37 (fun a49 => ?_)
          refine v_iload_n C dM_same_40 rfl 1 rfl ?_
          refine v_iald C rfl dM_same_41 (fun x50 => ?_)
          refine v_aload_n C dM_same_42 rfl 0 rfl ?_
          refine v_getR C v_cl5 (by decide) in_5 rfl w_613 dM_same_43 (fun a51 => ?_)
          refine v_iload_n C dM_same_46 rfl 2 rfl ?_
          refine v_iald C rfl dM_same_47 (fun x52 => ?_)
          refine v_icmp_ne (tgt := 55) C dM_same_48 (by decide) ?_ ?_
          · exact Hj48
          · refine v_iconst (v := 1) C dM_same_51 (by decide) ?_
            refine v_goto (tgt := 56) C dM_same_52 (by decide) ?_
            exact Hj8 1
  · refine v_bipush (v := (-2)) C dM_same_14 (by decide) ?_
    exact v_iret C dM_same_16 (by rw [hQ])
theorem dM_copy_0 : decode prog_7_method_44_code 0 = .ok (.aload_n 0, 1) := by decide +kernel
theorem dM_copy_1 : decode prog_7_method_44_code 1 = .ok (.getfield 7, 3) := by decide +kernel
theorem dM_copy_4 : decode prog_7_method_44_code 4 = .ok (.iload_n 2, 1) := by decide +kernel
theorem dM_copy_5 : decode prog_7_method_44_code 5 = .ok (.aload_n 0, 1) := by decide +kernel
theorem dM_copy_6 : decode prog_7_method_44_code 6 = .ok (.getfield 7, 3) := by decide +kernel
theorem dM_copy_9 : decode prog_7_method_44_code 9 = .ok (.iload_n 1, 1) := by decide +kernel
theorem dM_copy_10 : decode prog_7_method_44_code 10 = .ok (.iaload, 1) := by decide +kernel
theorem dM_copy_11 : decode prog_7_method_44_code 11 = .ok (.iastore, 1) := by decide +kernel
theorem dM_copy_12 : decode prog_7_method_44_code 12 = .ok (.aload_n 0, 1) := by decide +kernel
theorem dM_copy_13 : decode prog_7_method_44_code 13 = .ok (.getfield 13, 3) := by decide +kernel
theorem dM_copy_16 : decode prog_7_method_44_code 16 = .ok (.iload_n 2, 1) := by decide +kernel
theorem dM_copy_17 : decode prog_7_method_44_code 17 = .ok (.aload_n 0, 1) := by decide +kernel
theorem dM_copy_18 : decode prog_7_method_44_code 18 = .ok (.getfield 13, 3) := by decide +kernel
theorem dM_copy_21 : decode prog_7_method_44_code 21 = .ok (.iload_n 1, 1) := by decide +kernel
theorem dM_copy_22 : decode prog_7_method_44_code 22 = .ok (.iaload, 1) := by decide +kernel
theorem dM_copy_23 : decode prog_7_method_44_code 23 = .ok (.iastore, 1) := by decide +kernel
theorem dM_copy_24 : decode prog_7_method_44_code 24 = .ok (.aload_n 0, 1) := by decide +kernel
theorem dM_copy_25 : decode prog_7_method_44_code 25 = .ok (.getfield 16, 3) := by decide +kernel
theorem dM_copy_28 : decode prog_7_method_44_code 28 = .ok (.iload_n 2, 1) := by decide +kernel
theorem dM_copy_29 : decode prog_7_method_44_code 29 = .ok (.aload_n 0, 1) := by decide +kernel
theorem dM_copy_30 : decode prog_7_method_44_code 30 = .ok (.getfield 16, 3) := by decide +kernel
theorem dM_copy_33 : decode prog_7_method_44_code 33 = .ok (.iload_n 1, 1) := by decide +kernel
theorem dM_copy_34 : decode prog_7_method_44_code 34 = .ok (.iaload, 1) := by decide +kernel
theorem dM_copy_35 : decode prog_7_method_44_code 35 = .ok (.iastore, 1) := by decide +kernel
theorem dM_copy_36 : decode prog_7_method_44_code 36 = .ok (.iconst 0, 1) := by decide +kernel
theorem dM_copy_37 : decode prog_7_method_44_code 37 = .ok (.istore_n 3, 1) := by decide +kernel
theorem dM_copy_38 : decode prog_7_method_44_code 38 = .ok (.iload_n 3, 1) := by decide +kernel
theorem dM_copy_39 : decode prog_7_method_44_code 39 = .ok (.sipush 129, 3) := by decide +kernel
theorem dM_copy_42 : decode prog_7_method_44_code 42 = .ok (.if_icmp .ge 129, 3) := by decide +kernel
theorem dM_copy_45 : decode prog_7_method_44_code 45 = .ok (.aload_n 0, 1) := by decide +kernel
theorem dM_copy_46 : decode prog_7_method_44_code 46 = .ok (.getfield 23, 3) := by decide +kernel
theorem dM_copy_49 : decode prog_7_method_44_code 49 = .ok (.sipush 129, 3) := by decide +kernel
theorem dM_copy_52 : decode prog_7_method_44_code 52 = .ok (.iload_n 2, 1) := by decide +kernel
theorem dM_copy_53 : decode prog_7_method_44_code 53 = .ok (.imul, 1) := by decide +kernel
theorem dM_copy_54 : decode prog_7_method_44_code 54 = .ok (.iload_n 3, 1) := by decide +kernel
theorem dM_copy_55 : decode prog_7_method_44_code 55 = .ok (.iadd, 1) := by decide +kernel
theorem dM_copy_56 : decode prog_7_method_44_code 56 = .ok (.aload_n 0, 1) := by decide +kernel
theorem dM_copy_57 : decode prog_7_method_44_code 57 = .ok (.getfield 23, 3) := by decide +kernel
theorem dM_copy_60 : decode prog_7_method_44_code 60 = .ok (.sipush 129, 3) := by decide +kernel
theorem dM_copy_63 : decode prog_7_method_44_code 63 = .ok (.iload_n 1, 1) := by decide +kernel
theorem dM_copy_64 : decode prog_7_method_44_code 64 = .ok (.imul, 1) := by decide +kernel
theorem dM_copy_65 : decode prog_7_method_44_code 65 = .ok (.iload_n 3, 1) := by decide +kernel
theorem dM_copy_66 : decode prog_7_method_44_code 66 = .ok (.iadd, 1) := by decide +kernel
theorem dM_copy_67 : decode prog_7_method_44_code 67 = .ok (.iaload, 1) := by decide +kernel
theorem dM_copy_68 : decode prog_7_method_44_code 68 = .ok (.iastore, 1) := by decide +kernel
theorem dM_copy_69 : decode prog_7_method_44_code 69 = .ok (.aload_n 0, 1) := by decide +kernel
theorem dM_copy_70 : decode prog_7_method_44_code 70 = .ok (.getfield 26, 3) := by decide +kernel
theorem dM_copy_73 : decode prog_7_method_44_code 73 = .ok (.sipush 129, 3) := by decide +kernel
theorem dM_copy_76 : decode prog_7_method_44_code 76 = .ok (.iload_n 2, 1) := by decide +kernel
theorem dM_copy_77 : decode prog_7_method_44_code 77 = .ok (.imul, 1) := by decide +kernel
theorem dM_copy_78 : decode prog_7_method_44_code 78 = .ok (.iload_n 3, 1) := by decide +kernel
theorem dM_copy_79 : decode prog_7_method_44_code 79 = .ok (.iadd, 1) := by decide +kernel
theorem dM_copy_80 : decode prog_7_method_44_code 80 = .ok (.aload_n 0, 1) := by decide +kernel
theorem dM_copy_81 : decode prog_7_method_44_code 81 = .ok (.getfield 26, 3) := by decide +kernel
theorem dM_copy_84 : decode prog_7_method_44_code 84 = .ok (.sipush 129, 3) := by decide +kernel
theorem dM_copy_87 : decode prog_7_method_44_code 87 = .ok (.iload_n 1, 1) := by decide +kernel
theorem dM_copy_88 : decode prog_7_method_44_code 88 = .ok (.imul, 1) := by decide +kernel
theorem dM_copy_89 : decode prog_7_method_44_code 89 = .ok (.iload_n 3, 1) := by decide +kernel
theorem dM_copy_90 : decode prog_7_method_44_code 90 = .ok (.iadd, 1) := by decide +kernel
theorem dM_copy_91 : decode prog_7_method_44_code 91 = .ok (.iaload, 1) := by decide +kernel
theorem dM_copy_92 : decode prog_7_method_44_code 92 = .ok (.iastore, 1) := by decide +kernel
theorem dM_copy_93 : decode prog_7_method_44_code 93 = .ok (.aload_n 0, 1) := by decide +kernel
theorem dM_copy_94 : decode prog_7_method_44_code 94 = .ok (.getfield 29, 3) := by decide +kernel
theorem dM_copy_97 : decode prog_7_method_44_code 97 = .ok (.sipush 129, 3) := by decide +kernel
theorem dM_copy_100 : decode prog_7_method_44_code 100 = .ok (.iload_n 2, 1) := by decide +kernel
theorem dM_copy_101 : decode prog_7_method_44_code 101 = .ok (.imul, 1) := by decide +kernel
theorem dM_copy_102 : decode prog_7_method_44_code 102 = .ok (.iload_n 3, 1) := by decide +kernel
theorem dM_copy_103 : decode prog_7_method_44_code 103 = .ok (.iadd, 1) := by decide +kernel
theorem dM_copy_104 : decode prog_7_method_44_code 104 = .ok (.aload_n 0, 1) := by decide +kernel
theorem dM_copy_105 : decode prog_7_method_44_code 105 = .ok (.getfield 29, 3) := by decide +kernel
theorem dM_copy_108 : decode prog_7_method_44_code 108 = .ok (.sipush 129, 3) := by decide +kernel
theorem dM_copy_111 : decode prog_7_method_44_code 111 = .ok (.iload_n 1, 1) := by decide +kernel
theorem dM_copy_112 : decode prog_7_method_44_code 112 = .ok (.imul, 1) := by decide +kernel
theorem dM_copy_113 : decode prog_7_method_44_code 113 = .ok (.iload_n 3, 1) := by decide +kernel
theorem dM_copy_114 : decode prog_7_method_44_code 114 = .ok (.iadd, 1) := by decide +kernel
theorem dM_copy_115 : decode prog_7_method_44_code 115 = .ok (.iaload, 1) := by decide +kernel
theorem dM_copy_116 : decode prog_7_method_44_code 116 = .ok (.iastore, 1) := by decide +kernel
theorem dM_copy_117 : decode prog_7_method_44_code 117 = .ok (.aload_n 0, 1) := by decide +kernel
theorem dM_copy_118 : decode prog_7_method_44_code 118 = .ok (.getfield 35, 3) := by decide +kernel
theorem dM_copy_121 : decode prog_7_method_44_code 121 = .ok (.sipush 129, 3) := by decide +kernel
theorem dM_copy_124 : decode prog_7_method_44_code 124 = .ok (.iload_n 2, 1) := by decide +kernel
theorem dM_copy_125 : decode prog_7_method_44_code 125 = .ok (.imul, 1) := by decide +kernel
theorem dM_copy_126 : decode prog_7_method_44_code 126 = .ok (.iload_n 3, 1) := by decide +kernel
theorem dM_copy_127 : decode prog_7_method_44_code 127 = .ok (.iadd, 1) := by decide +kernel
theorem dM_copy_128 : decode prog_7_method_44_code 128 = .ok (.aload_n 0, 1) := by decide +kernel
theorem dM_copy_129 : decode prog_7_method_44_code 129 = .ok (.getfield 35, 3) := by decide +kernel
theorem dM_copy_132 : decode prog_7_method_44_code 132 = .ok (.sipush 129, 3) := by decide +kernel
theorem dM_copy_135 : decode prog_7_method_44_code 135 = .ok (.iload_n 1, 1) := by decide +kernel
theorem dM_copy_136 : decode prog_7_method_44_code 136 = .ok (.imul, 1) := by decide +kernel
theorem dM_copy_137 : decode prog_7_method_44_code 137 = .ok (.iload_n 3, 1) := by decide +kernel
theorem dM_copy_138 : decode prog_7_method_44_code 138 = .ok (.iadd, 1) := by decide +kernel
theorem dM_copy_139 : decode prog_7_method_44_code 139 = .ok (.iaload, 1) := by decide +kernel
theorem dM_copy_140 : decode prog_7_method_44_code 140 = .ok (.iastore, 1) := by decide +kernel
theorem dM_copy_141 : decode prog_7_method_44_code 141 = .ok (.aload_n 0, 1) := by decide +kernel
theorem dM_copy_142 : decode prog_7_method_44_code 142 = .ok (.getfield 38, 3) := by decide +kernel
theorem dM_copy_145 : decode prog_7_method_44_code 145 = .ok (.sipush 129, 3) := by decide +kernel
theorem dM_copy_148 : decode prog_7_method_44_code 148 = .ok (.iload_n 2, 1) := by decide +kernel
theorem dM_copy_149 : decode prog_7_method_44_code 149 = .ok (.imul, 1) := by decide +kernel
theorem dM_copy_150 : decode prog_7_method_44_code 150 = .ok (.iload_n 3, 1) := by decide +kernel
theorem dM_copy_151 : decode prog_7_method_44_code 151 = .ok (.iadd, 1) := by decide +kernel
theorem dM_copy_152 : decode prog_7_method_44_code 152 = .ok (.aload_n 0, 1) := by decide +kernel
theorem dM_copy_153 : decode prog_7_method_44_code 153 = .ok (.getfield 38, 3) := by decide +kernel
theorem dM_copy_156 : decode prog_7_method_44_code 156 = .ok (.sipush 129, 3) := by decide +kernel
theorem dM_copy_159 : decode prog_7_method_44_code 159 = .ok (.iload_n 1, 1) := by decide +kernel
theorem dM_copy_160 : decode prog_7_method_44_code 160 = .ok (.imul, 1) := by decide +kernel
theorem dM_copy_161 : decode prog_7_method_44_code 161 = .ok (.iload_n 3, 1) := by decide +kernel
theorem dM_copy_162 : decode prog_7_method_44_code 162 = .ok (.iadd, 1) := by decide +kernel
theorem dM_copy_163 : decode prog_7_method_44_code 163 = .ok (.baload, 1) := by decide +kernel
theorem dM_copy_164 : decode prog_7_method_44_code 164 = .ok (.bastore, 1) := by decide +kernel
theorem dM_copy_165 : decode prog_7_method_44_code 165 = .ok (.iinc 3 1, 3) := by decide +kernel
theorem dM_copy_168 : decode prog_7_method_44_code 168 = .ok (.goto (-130), 3) := by decide +kernel
theorem dM_copy_171 : decode prog_7_method_44_code 171 = .ok (.iconst 0, 1) := by decide +kernel
theorem dM_copy_172 : decode prog_7_method_44_code 172 = .ok (.istore_n 3, 1) := by decide +kernel
theorem dM_copy_173 : decode prog_7_method_44_code 173 = .ok (.iload_n 3, 1) := by decide +kernel
theorem dM_copy_174 : decode prog_7_method_44_code 174 = .ok (.bipush 64, 2) := by decide +kernel
theorem dM_copy_176 : decode prog_7_method_44_code 176 = .ok (.if_icmp .ge 31, 3) := by decide +kernel
theorem dM_copy_179 : decode prog_7_method_44_code 179 = .ok (.aload_n 0, 1) := by decide +kernel
theorem dM_copy_180 : decode prog_7_method_44_code 180 = .ok (.getfield 32, 3) := by decide +kernel
theorem dM_copy_183 : decode prog_7_method_44_code 183 = .ok (.bipush 64, 2) := by decide +kernel
theorem dM_copy_185 : decode prog_7_method_44_code 185 = .ok (.iload_n 2, 1) := by decide +kernel
theorem dM_copy_186 : decode prog_7_method_44_code 186 = .ok (.imul, 1) := by decide +kernel
theorem dM_copy_187 : decode prog_7_method_44_code 187 = .ok (.iload_n 3, 1) := by decide +kernel
theorem dM_copy_188 : decode prog_7_method_44_code 188 = .ok (.iadd, 1) := by decide +kernel
theorem dM_copy_189 : decode prog_7_method_44_code 189 = .ok (.aload_n 0, 1) := by decide +kernel
theorem dM_copy_190 : decode prog_7_method_44_code 190 = .ok (.getfield 32, 3) := by decide +kernel
theorem dM_copy_193 : decode prog_7_method_44_code 193 = .ok (.bipush 64, 2) := by decide +kernel
theorem dM_copy_195 : decode prog_7_method_44_code 195 = .ok (.iload_n 1, 1) := by decide +kernel
theorem dM_copy_196 : decode prog_7_method_44_code 196 = .ok (.imul, 1) := by decide +kernel
theorem dM_copy_197 : decode prog_7_method_44_code 197 = .ok (.iload_n 3, 1) := by decide +kernel
theorem dM_copy_198 : decode prog_7_method_44_code 198 = .ok (.iadd, 1) := by decide +kernel
theorem dM_copy_199 : decode prog_7_method_44_code 199 = .ok (.iaload, 1) := by decide +kernel
theorem dM_copy_200 : decode prog_7_method_44_code 200 = .ok (.iastore, 1) := by decide +kernel
theorem dM_copy_201 : decode prog_7_method_44_code 201 = .ok (.iinc 3 1, 3) := by decide +kernel
theorem dM_copy_204 : decode prog_7_method_44_code 204 = .ok (.goto (-31), 3) := by decide +kernel
theorem dM_copy_207 : decode prog_7_method_44_code 207 = .ok (.return_, 1) := by decide +kernel
def LM_copy_173 (a0 : Nat) (p1 : Int32) (p2 : Int32) (K16 : Hp → Option Hp) (rec19 : Hp → Int32 → Option Hp) (h17 : Hp) (x18 : Int32) : Option Hp :=
  if 64 ≤ x18 then
    (K16 h17)
  else
    (gR h17 a0 5 10 (fun a20 =>
    gR h17 a0 5 10 (fun a21 =>
    ldI h17 a21 0 ((64 * p1) + x18) (fun x22 =>
    stI h17 a20 0 ((64 * p2) + x18) x22 (fun h23 =>
    rec19 h23 (x18 + 1))))))
def LM_copy_38 (a0 : Nat) (p1 : Int32) (p2 : Int32) (K14 : Hp → Option Hp) (rec26 : Hp → Int32 → Option Hp) (h24 : Hp) (x25 : Int32) : Option Hp :=
  if 129 ≤ x25 then
    (K14 h24)
  else
    (gR h24 a0 5 7 (fun a27 =>
    gR h24 a0 5 7 (fun a28 =>
    ldI h24 a28 0 ((129 * p1) + x25) (fun x29 =>
    stI h24 a27 0 ((129 * p2) + x25) x29 (fun h30 =>
    gR h30 a0 5 8 (fun a31 =>
    gR h30 a0 5 8 (fun a32 =>
    ldI h30 a32 0 ((129 * p1) + x25) (fun x33 =>
    stI h30 a31 0 ((129 * p2) + x25) x33 (fun h34 =>
    gR h34 a0 5 9 (fun a35 =>
    gR h34 a0 5 9 (fun a36 =>
    ldI h34 a36 0 ((129 * p1) + x25) (fun x37 =>
    stI h34 a35 0 ((129 * p2) + x25) x37 (fun h38 =>
    gR h38 a0 5 11 (fun a39 =>
    gR h38 a0 5 11 (fun a40 =>
    ldI h38 a40 0 ((129 * p1) + x25) (fun x41 =>
    stI h38 a39 0 ((129 * p2) + x25) x41 (fun h42 =>
    gR h42 a0 5 12 (fun a43 =>
    gR h42 a0 5 12 (fun a44 =>
    ldI h42 a44 1 ((129 * p1) + x25) (fun x45 =>
    stI h42 a43 1 ((129 * p2) + x25) (vp_nar .boolean x45) (fun h46 =>
    rec26 h46 (x25 + 1))))))))))))))))))))))
def FM_copy (h0 : Hp) (a0 : Nat) (p1 : Int32) (p2 : Int32) : Option Hp :=
  gR h0 a0 5 3 (fun a1 =>
  gR h0 a0 5 3 (fun a2 =>
  ldI h0 a2 0 p1 (fun x3 =>
  stI h0 a1 0 p2 x3 (fun h4 =>
  gR h4 a0 5 4 (fun a5 =>
  gR h4 a0 5 4 (fun a6 =>
  ldI h4 a6 0 p1 (fun x7 =>
  stI h4 a5 0 p2 x7 (fun h8 =>
  gR h8 a0 5 5 (fun a9 =>
  gR h8 a0 5 5 (fun a10 =>
  ldI h8 a10 0 p1 (fun x11 =>
  stI h8 a9 0 p2 x11 (fun h12 =>
  jn (fun (h13 : Hp) =>
  jn (fun (h15 : Hp) =>
  some h15)
  (fun (K16 : Hp → Option Hp) =>
  lpG (fun _ _ => none) fu (LM_copy_173 a0 p1 p2 K16) h13 0))
  (fun (K14 : Hp → Option Hp) =>
  lpG (fun _ _ => none) fu (LM_copy_38 a0 p1 p2 K14) h12 0)))))))))))))
set_option maxRecDepth 100000 in
set_option maxHeartbeats 4000000 in
theorem mM_copy (l : Launch) (h0 : Hp) (z0 : Nat) (a0 : Nat) (p1 : Int32) (p2 : Int32) (r : Hp) (hr : FM_copy h0 a0 p1 p2 = some r) : vM False l yM_copy (Cond.code yM_copy prog_7_method_44_code 4 none :: gW) 0 [.ref a0, .int p1, .int p2] h0 z0 r z0 none 0 0 := by
  refine vM.of (by decide) rfl (Nat.le_of_ble_eq_true rfl) ?_
  intro p e s m args below meth c D dA C hin2
  refine (?_ : vO p l e (vR 0 0 0) s m args below meth c D dA (vA h0 z0) 4 False (fun r : Hp => MQ below (vQc False h0 z0 D dA r z0 none) args s 0 0 (vAr False h0 z0)) 0 0 h0 z0 [(0, .ref a0), (1, .int p1), (2, .int p2)] 0 [] (FM_copy h0 a0 p1 p2)) r hr
  obtain ⟨Q, hQ⟩ : ∃ Q : Hp → State → Prop, Q = (fun r : Hp => MQ below (vQc False h0 z0 D dA r z0 none) args s 0 0 (vAr False h0 z0)) := ⟨_, rfl⟩
  rw [← hQ]
  unfold FM_copy
  refine v_aload_n C dM_copy_0 rfl 0 rfl ?_
  refine v_getR C v_cl5 (by decide) in_5 rfl w_612 dM_copy_1 (fun a1 => ?_)
  refine v_iload_n C dM_copy_4 rfl 2 rfl ?_
  refine v_aload_n C dM_copy_5 rfl 0 rfl ?_
  refine v_getR C v_cl5 (by decide) in_5 rfl w_612 dM_copy_6 (fun a2 => ?_)
  refine v_iload_n C dM_copy_9 rfl 1 rfl ?_
  refine v_iald C rfl dM_copy_10 (fun x3 => ?_)
  refine v_iast C rfl dM_copy_11 (fun h4 => ?_)
  refine v_aload_n C dM_copy_12 rfl 0 rfl ?_
  refine v_getR C v_cl5 (by decide) in_5 rfl w_613 dM_copy_13 (fun a5 => ?_)
  refine v_iload_n C dM_copy_16 rfl 2 rfl ?_
  refine v_aload_n C dM_copy_17 rfl 0 rfl ?_
  refine v_getR C v_cl5 (by decide) in_5 rfl w_613 dM_copy_18 (fun a6 => ?_)
  refine v_iload_n C dM_copy_21 rfl 1 rfl ?_
  refine v_iald C rfl dM_copy_22 (fun x7 => ?_)
  refine v_iast C rfl dM_copy_23 (fun h8 => ?_)
  refine v_aload_n C dM_copy_24 rfl 0 rfl ?_
  refine v_getR C v_cl5 (by decide) in_5 rfl w_614 dM_copy_25 (fun a9 => ?_)
  refine v_iload_n C dM_copy_28 rfl 2 rfl ?_
  refine v_aload_n C dM_copy_29 rfl 0 rfl ?_
  refine v_getR C v_cl5 (by decide) in_5 rfl w_614 dM_copy_30 (fun a10 => ?_)
  refine v_iload_n C dM_copy_33 rfl 1 rfl ?_
  refine v_iald C rfl dM_copy_34 (fun x11 => ?_)
  refine v_iast C rfl dM_copy_35 (fun h12 => ?_)
  refine v_iconst (v := 0) C dM_copy_36 (by decide) ?_
  refine v_istore_n (lv' := [(0, .ref a0), (1, .int p1), (2, .int p2), (3, .int 0)]) C dM_copy_37 rfl (by decide) [1, 2, 3, 0] rfl ?_
  refine v_jn (fun (j : Hp → Option Hp) => ∀ (h13 : Hp), vO p l e (vR 0 0 0) s m args below meth c D dA (vA h0 z0) 4 False Q 0 0 h13 z0 [(0, .ref a0), (1, .int p1), (2, .int p2)] 171 [] (j h13)) ?_ (fun K14 HK14 => ?_)
  · intro h13
    refine v_iconst (v := 0) C dM_copy_171 (by decide) ?_
    refine v_istore_n (lv' := [(0, .ref a0), (1, .int p1), (2, .int p2), (3, .int 0)]) C dM_copy_172 rfl (by decide) [1, 2, 3, 0] rfl ?_
    refine v_jn (fun (j : Hp → Option Hp) => ∀ (h15 : Hp), vO p l e (vR 0 0 0) s m args below meth c D dA (vA h0 z0) 4 False Q 0 0 h15 z0 [] 207 [] (j h15)) ?_ (fun K16 HK16 => ?_)
    · intro h15
      exact v_vret C dM_copy_207 (by rw [hQ])
    · refine lpG_ind (bot := (fun _ _ => none)) (B := LM_copy_173 a0 p1 p2 K16) (fun (r : Hp → Int32 → Option Hp) => ∀ (h17 : Hp), ∀ (x18 : Int32), vO p l e (vR 0 0 0) s m args below meth c D dA (vA h0 z0) 4 False Q 0 0 h17 z0 [(0, .ref a0), (1, .int p1), (2, .int p2), (3, .int x18)] 173 [] (r h17 x18)) ?_ ?_ fu h13 0
      · intro h17 x18
        exact v_none
      · intro rec19 Hrec19 h17 x18
        unfold LM_copy_173
        refine v_iload_n C dM_copy_173 rfl 3 rfl ?_
        refine v_bipush (v := 64) C dM_copy_174 (by decide) ?_
        refine v_icmp_ge (tgt := 207) C dM_copy_176 (by decide) ?_ ?_
        · refine v_lv (lv' := []) [] rfl ?_
          exact HK16 h17
        · refine v_aload_n C dM_copy_179 rfl 0 rfl ?_
          refine v_getR C v_cl5 (by decide) in_5 rfl w_619 dM_copy_180 (fun a20 => ?_)
          refine v_bipush (v := 64) C dM_copy_183 (by decide) ?_
          refine v_iload_n C dM_copy_185 rfl 2 rfl ?_
          refine v_imul C dM_copy_186 ?_
          refine v_iload_n C dM_copy_187 rfl 3 rfl ?_
          refine v_iadd C dM_copy_188 ?_
          refine v_aload_n C dM_copy_189 rfl 0 rfl ?_
          refine v_getR C v_cl5 (by decide) in_5 rfl w_619 dM_copy_190 (fun a21 => ?_)
          refine v_bipush (v := 64) C dM_copy_193 (by decide) ?_
          refine v_iload_n C dM_copy_195 rfl 1 rfl ?_
          refine v_imul C dM_copy_196 ?_
          refine v_iload_n C dM_copy_197 rfl 3 rfl ?_
          refine v_iadd C dM_copy_198 ?_
          refine v_iald C rfl dM_copy_199 (fun x22 => ?_)
          refine v_iast C rfl dM_copy_200 (fun h23 => ?_)
          refine v_iinc (v := (x18 + 1)) (lv' := [(0, .ref a0), (1, .int p1), (2, .int p2), (3, .int (x18 + 1))]) C dM_copy_201 3 rfl rfl (by decide) [1, 2, 3, 0] rfl ?_
          refine v_goto (tgt := 173) C dM_copy_204 (by decide) ?_
          exact Hrec19 h23 (x18 + 1)
  · refine lpG_ind (bot := (fun _ _ => none)) (B := LM_copy_38 a0 p1 p2 K14) (fun (r : Hp → Int32 → Option Hp) => ∀ (h24 : Hp), ∀ (x25 : Int32), vO p l e (vR 0 0 0) s m args below meth c D dA (vA h0 z0) 4 False Q 0 0 h24 z0 [(0, .ref a0), (1, .int p1), (2, .int p2), (3, .int x25)] 38 [] (r h24 x25)) ?_ ?_ fu h12 0
    · intro h24 x25
      exact v_none
    · intro rec26 Hrec26 h24 x25
      unfold LM_copy_38
      refine v_iload_n C dM_copy_38 rfl 3 rfl ?_
      refine v_sipush (v := 129) C dM_copy_39 (by decide) ?_
      refine v_icmp_ge (tgt := 171) C dM_copy_42 (by decide) ?_ ?_
      · refine v_lv (lv' := [(0, .ref a0), (1, .int p1), (2, .int p2)]) [0, 1, 2] rfl ?_
        exact HK14 h24
      · refine v_aload_n C dM_copy_45 rfl 0 rfl ?_
        refine v_getR C v_cl5 (by decide) in_5 rfl w_616 dM_copy_46 (fun a27 => ?_)
        refine v_sipush (v := 129) C dM_copy_49 (by decide) ?_
        refine v_iload_n C dM_copy_52 rfl 2 rfl ?_
        refine v_imul C dM_copy_53 ?_
        refine v_iload_n C dM_copy_54 rfl 3 rfl ?_
        refine v_iadd C dM_copy_55 ?_
        refine v_aload_n C dM_copy_56 rfl 0 rfl ?_
        refine v_getR C v_cl5 (by decide) in_5 rfl w_616 dM_copy_57 (fun a28 => ?_)
        refine v_sipush (v := 129) C dM_copy_60 (by decide) ?_
        refine v_iload_n C dM_copy_63 rfl 1 rfl ?_
        refine v_imul C dM_copy_64 ?_
        refine v_iload_n C dM_copy_65 rfl 3 rfl ?_
        refine v_iadd C dM_copy_66 ?_
        refine v_iald C rfl dM_copy_67 (fun x29 => ?_)
        refine v_iast C rfl dM_copy_68 (fun h30 => ?_)
        refine v_aload_n C dM_copy_69 rfl 0 rfl ?_
        refine v_getR C v_cl5 (by decide) in_5 rfl w_617 dM_copy_70 (fun a31 => ?_)
        refine v_sipush (v := 129) C dM_copy_73 (by decide) ?_
        refine v_iload_n C dM_copy_76 rfl 2 rfl ?_
        refine v_imul C dM_copy_77 ?_
        refine v_iload_n C dM_copy_78 rfl 3 rfl ?_
        refine v_iadd C dM_copy_79 ?_
        refine v_aload_n C dM_copy_80 rfl 0 rfl ?_
        refine v_getR C v_cl5 (by decide) in_5 rfl w_617 dM_copy_81 (fun a32 => ?_)
        refine v_sipush (v := 129) C dM_copy_84 (by decide) ?_
        refine v_iload_n C dM_copy_87 rfl 1 rfl ?_
        refine v_imul C dM_copy_88 ?_
        refine v_iload_n C dM_copy_89 rfl 3 rfl ?_
        refine v_iadd C dM_copy_90 ?_
        refine v_iald C rfl dM_copy_91 (fun x33 => ?_)
        refine v_iast C rfl dM_copy_92 (fun h34 => ?_)
        refine v_aload_n C dM_copy_93 rfl 0 rfl ?_
        refine v_getR C v_cl5 (by decide) in_5 rfl w_618 dM_copy_94 (fun a35 => ?_)
        refine v_sipush (v := 129) C dM_copy_97 (by decide) ?_
        refine v_iload_n C dM_copy_100 rfl 2 rfl ?_
        refine v_imul C dM_copy_101 ?_
        refine v_iload_n C dM_copy_102 rfl 3 rfl ?_
        refine v_iadd C dM_copy_103 ?_
        refine v_aload_n C dM_copy_104 rfl 0 rfl ?_
        refine v_getR C v_cl5 (by decide) in_5 rfl w_618 dM_copy_105 (fun a36 => ?_)
        refine v_sipush (v := 129) C dM_copy_108 (by decide) ?_
        refine v_iload_n C dM_copy_111 rfl 1 rfl ?_
        refine v_imul C dM_copy_112 ?_
        refine v_iload_n C dM_copy_113 rfl 3 rfl ?_
        refine v_iadd C dM_copy_114 ?_
        refine v_iald C rfl dM_copy_115 (fun x37 => ?_)
        refine v_iast C rfl dM_copy_116 (fun h38 => ?_)
        refine v_aload_n C dM_copy_117 rfl 0 rfl ?_
        refine v_getR C v_cl5 (by decide) in_5 rfl w_620 dM_copy_118 (fun a39 => ?_)
        refine v_sipush (v := 129) C dM_copy_121 (by decide) ?_
        refine v_iload_n C dM_copy_124 rfl 2 rfl ?_
        refine v_imul C dM_copy_125 ?_
        refine v_iload_n C dM_copy_126 rfl 3 rfl ?_
        refine v_iadd C dM_copy_127 ?_
        refine v_aload_n C dM_copy_128 rfl 0 rfl ?_
        refine v_getR C v_cl5 (by decide) in_5 rfl w_620 dM_copy_129 (fun a40 => ?_)
        refine v_sipush (v := 129) C dM_copy_132 (by decide) ?_
        refine v_iload_n C dM_copy_135 rfl 1 rfl ?_
        refine v_imul C dM_copy_136 ?_
        refine v_iload_n C dM_copy_137 rfl 3 rfl ?_
        refine v_iadd C dM_copy_138 ?_
        refine v_iald C rfl dM_copy_139 (fun x41 => ?_)
        refine v_iast C rfl dM_copy_140 (fun h42 => ?_)
        refine v_aload_n C dM_copy_141 rfl 0 rfl ?_
        refine v_getR C v_cl5 (by decide) in_5 rfl w_621 dM_copy_142 (fun a43 => ?_)
        refine v_sipush (v := 129) C dM_copy_145 (by decide) ?_
        refine v_iload_n C dM_copy_148 rfl 2 rfl ?_
        refine v_imul C dM_copy_149 ?_
        refine v_iload_n C dM_copy_150 rfl 3 rfl ?_
        refine v_iadd C dM_copy_151 ?_
        refine v_aload_n C dM_copy_152 rfl 0 rfl ?_
        refine v_getR C v_cl5 (by decide) in_5 rfl w_621 dM_copy_153 (fun a44 => ?_)
        refine v_sipush (v := 129) C dM_copy_156 (by decide) ?_
        refine v_iload_n C dM_copy_159 rfl 1 rfl ?_
        refine v_imul C dM_copy_160 ?_
        refine v_iload_n C dM_copy_161 rfl 3 rfl ?_
        refine v_iadd C dM_copy_162 ?_
        refine v_zald C rfl dM_copy_163 (fun x45 => ?_)
        refine v_zast C rfl dM_copy_164 (fun h46 => ?_)
        refine v_iinc (v := (x25 + 1)) (lv' := [(0, .ref a0), (1, .int p1), (2, .int p2), (3, .int (x25 + 1))]) C dM_copy_165 3 rfl rfl (by decide) [1, 2, 3, 0] rfl ?_
        refine v_goto (tgt := 38) C dM_copy_168 (by decide) ?_
        exact Hrec26 h46 (x25 + 1)
theorem dM_save_0 : decode prog_7_method_45_code 0 = .ok (.aload_n 0, 1) := by decide +kernel
theorem dM_save_1 : decode prog_7_method_45_code 1 = .ok (.iconst 0, 1) := by decide +kernel
theorem dM_save_2 : decode prog_7_method_45_code 2 = .ok (.putfield 73, 3) := by decide +kernel
theorem dM_save_5 : decode prog_7_method_45_code 5 = .ok (.iload_n 1, 1) := by decide +kernel
theorem dM_save_6 : decode prog_7_method_45_code 6 = .ok (.iconst 0, 1) := by decide +kernel
theorem dM_save_7 : decode prog_7_method_45_code 7 = .ok (.iconst 3, 1) := by decide +kernel
theorem dM_save_8 : decode prog_7_method_45_code 8 = .ok (.invokestatic 76, 3) := by decide +kernel
theorem dM_save_11 : decode prog_7_method_45_code 11 = .ok (.ifCond .eq 11, 3) := by decide +kernel
theorem dM_save_14 : decode prog_7_method_45_code 14 = .ok (.iload_n 2, 1) := by decide +kernel
theorem dM_save_15 : decode prog_7_method_45_code 15 = .ok (.iload_n 3, 1) := by decide +kernel
theorem dM_save_16 : decode prog_7_method_45_code 16 = .ok (.invokestatic 160, 3) := by decide +kernel
theorem dM_save_19 : decode prog_7_method_45_code 19 = .ok (.ifCond .ne 6, 3) := by decide +kernel
theorem dM_save_22 : decode prog_7_method_45_code 22 = .ok (.bipush (-2), 2) := by decide +kernel
theorem dM_save_24 : decode prog_7_method_45_code 24 = .ok (.ireturn, 1) := by decide +kernel
theorem dM_save_25 : decode prog_7_method_45_code 25 = .ok (.aload_n 0, 1) := by decide +kernel
theorem dM_save_26 : decode prog_7_method_45_code 26 = .ok (.getfield 19, 3) := by decide +kernel
theorem dM_save_29 : decode prog_7_method_45_code 29 = .ok (.iload_n 1, 1) := by decide +kernel
theorem dM_save_30 : decode prog_7_method_45_code 30 = .ok (.baload, 1) := by decide +kernel
theorem dM_save_31 : decode prog_7_method_45_code 31 = .ok (.istore 4, 2) := by decide +kernel
theorem dM_save_33 : decode prog_7_method_45_code 33 = .ok (.aload_n 0, 1) := by decide +kernel
theorem dM_save_34 : decode prog_7_method_45_code 34 = .ok (.getfield 19, 3) := by decide +kernel
theorem dM_save_37 : decode prog_7_method_45_code 37 = .ok (.iload_n 1, 1) := by decide +kernel
theorem dM_save_38 : decode prog_7_method_45_code 38 = .ok (.iconst 1, 1) := by decide +kernel
theorem dM_save_39 : decode prog_7_method_45_code 39 = .ok (.bastore, 1) := by decide +kernel
theorem dM_save_40 : decode prog_7_method_45_code 40 = .ok (.aload_n 0, 1) := by decide +kernel
theorem dM_save_41 : decode prog_7_method_45_code 41 = .ok (.iconst 4, 1) := by decide +kernel
theorem dM_save_42 : decode prog_7_method_45_code 42 = .ok (.iload_n 2, 1) := by decide +kernel
theorem dM_save_43 : decode prog_7_method_45_code 43 = .ok (.imul, 1) := by decide +kernel
theorem dM_save_44 : decode prog_7_method_45_code 44 = .ok (.iload_n 3, 1) := by decide +kernel
theorem dM_save_45 : decode prog_7_method_45_code 45 = .ok (.iadd, 1) := by decide +kernel
theorem dM_save_46 : decode prog_7_method_45_code 46 = .ok (.bipush 8, 2) := by decide +kernel
theorem dM_save_48 : decode prog_7_method_45_code 48 = .ok (.iload_n 1, 1) := by decide +kernel
theorem dM_save_49 : decode prog_7_method_45_code 49 = .ok (.iadd, 1) := by decide +kernel
theorem dM_save_50 : decode prog_7_method_45_code 50 = .ok (.invokevirtual 170, 3) := by decide +kernel
theorem dM_save_53 : decode prog_7_method_45_code 53 = .ok (.iload 4, 2) := by decide +kernel
theorem dM_save_55 : decode prog_7_method_45_code 55 = .ok (.ifCond .eq 7, 3) := by decide +kernel
theorem dM_save_58 : decode prog_7_method_45_code 58 = .ok (.iconst 1, 1) := by decide +kernel
theorem dM_save_59 : decode prog_7_method_45_code 59 = .ok (.goto 4, 3) := by decide +kernel
theorem dM_save_62 : decode prog_7_method_45_code 62 = .ok (.iconst 0, 1) := by decide +kernel
theorem dM_save_63 : decode prog_7_method_45_code 63 = .ok (.ireturn, 1) := by decide +kernel
def FM_save (h0 : Hp) (a0 : Nat) (p1 : Int32) (p2 : Int32) (p3 : Int32) : Option (Hp × Int32) :=
  pF h0 a0 5 20 (.int 0) (fun h1 =>
  (FM_isIn h1 p1 0 3).bind (fun r2 =>
  jn (some (h1, (-2)))
  (fun (j3 : Option (Hp × Int32)) =>
  if r2 = 0 then
    (j3)
  else
    ((FM_isTree h1 p2 p3).bind (fun r4 =>
    if r4 = 0 then
      (j3)
    else
      (gR h1 a0 5 6 (fun a5 =>
      ldI h1 a5 1 p1 (fun x6 =>
      gR h1 a0 5 6 (fun a7 =>
      stI h1 a7 1 p1 (vp_nar .boolean 1) (fun h8 =>
      gd (isO h8 a0 5 = true) ((FM_copy h8 a0 ((4 * p2) + p3) (8 + p1)).bind (fun r10 =>
      jn (fun (y11 : Int32) =>
      some (r10, y11))
      (fun (j12 : Int32 → Option (Hp × Int32)) =>
      if x6 = 0 then
        (j12 0)
      else
        (j12 1))))))))))))))
set_option maxRecDepth 100000 in
set_option maxHeartbeats 4000000 in
theorem mM_save (l : Launch) (h0 : Hp) (z0 : Nat) (a0 : Nat) (p1 : Int32) (p2 : Int32) (p3 : Int32) (r : (Hp × Int32)) (hr : FM_save h0 a0 p1 p2 p3 = some r) : vM False l yM_save (Cond.code yM_save prog_7_method_45_code 5 (some (.int)) :: gW) 2 [.ref a0, .int p1, .int p2, .int p3] h0 z0 r.1 z0 (some (.int r.2)) 0 0 := by
  refine vM.of (by decide) rfl (Nat.le_of_ble_eq_true rfl) ?_
  intro p e s m args below meth c D dA C hin2
  refine (?_ : vO p l e (vR 2 0 0) s m args below meth c D dA (vA h0 z0) 5 False (fun r : (Hp × Int32) => MQ below (vQc False h0 z0 D dA r.1 z0 (some (.int r.2))) args s 0 0 (vAr False h0 z0)) 0 0 h0 z0 [(0, .ref a0), (1, .int p1), (2, .int p2), (3, .int p3)] 0 [] (FM_save h0 a0 p1 p2 p3)) r hr
  obtain ⟨Q, hQ⟩ : ∃ Q : (Hp × Int32) → State → Prop, Q = (fun r : (Hp × Int32) => MQ below (vQc False h0 z0 D dA r.1 z0 (some (.int r.2))) args s 0 0 (vAr False h0 z0)) := ⟨_, rfl⟩
  rw [← hQ]
  unfold FM_save
  refine v_aload_n C dM_save_0 rfl 0 rfl ?_
  refine v_iconst (v := 0) C dM_save_1 (by decide) ?_
  refine v_put C v_cl5 (by decide) in_5 ty_5 ty_5_ok nm_5 rfl w_629 rfl (ty := .int) (by decide +kernel) rfl rfl dM_save_2 (fun h1 => ?_)
  refine v_iload_n C dM_save_5 rfl 1 rfl ?_
  refine v_iconst (v := 0) C dM_save_6 (by decide) ?_
  refine v_iconst (v := 3) C dM_save_7 (by decide) ?_
  refine v_bind fun r2 hr2 => ?_
  refine v_callS0 (N := 3) (As := [.int p1, .int 0, .int 3]) (st := []) C (fun _ => trivial) (mM_isIn l h1 z0 p1 0 3 r2 hr2) rfl w_698 w_53 (by decide +kernel) ⟨Nat.le_of_ble_eq_true rfl, Nat.le_of_ble_eq_true rfl⟩ rfl rfl (Nat.le_of_ble_eq_true rfl) ⟨Nat.zero_le _, Nat.zero_le _⟩ w_696 w_697 dM_save_8 ?_
  refine v_jn (fun (j : Option (Hp × Int32)) => vO p l e (vR 2 0 0) s m args below meth c D dA (vA h0 z0) 5 False Q 0 0 h1 z0 [] 22 [] j) ?_ (fun j3 Hj3 => ?_)
  · refine v_bipush (v := (-2)) C dM_save_22 (by decide) ?_
    exact v_iret C dM_save_24 (by rw [hQ])
  · refine v_if_eq (tgt := 22) C dM_save_11 (by decide) ?_ ?_
    · refine v_lv (lv' := []) [] rfl ?_
      exact Hj3
    · refine v_iload_n C dM_save_14 rfl 2 rfl ?_
      refine v_iload_n C dM_save_15 rfl 3 rfl ?_
      refine v_bind fun r4 hr4 => ?_
      refine v_callS0 (N := 2) (As := [.int p2, .int p3]) (st := []) C (fun _ => trivial) (mM_isTree l h1 z0 p2 p3 r4 hr4) rfl w_810 w_53 (by decide +kernel) ⟨Nat.le_of_ble_eq_true rfl, Nat.le_of_ble_eq_true rfl⟩ rfl rfl (Nat.le_of_ble_eq_true rfl) ⟨Nat.zero_le _, Nat.zero_le _⟩ w_808 w_809 dM_save_16 ?_
      refine v_if_ne (tgt := 25) C dM_save_19 (by decide) ?_ ?_
      · refine v_aload_n C dM_save_25 rfl 0 rfl ?_
        refine v_getR C v_cl5 (by decide) in_5 rfl w_615 dM_save_26 (fun a5 => ?_)
        refine v_iload_n C dM_save_29 rfl 1 rfl ?_
        refine v_zald C rfl dM_save_30 (fun x6 => ?_)
        refine v_istore (lv' := [(0, .ref a0), (1, .int p1), (2, .int p2), (3, .int p3), (4, .int x6)]) C dM_save_31 (by decide) [1, 2, 3, 4, 0] rfl ?_
        refine v_aload_n C dM_save_33 rfl 0 rfl ?_
        refine v_getR C v_cl5 (by decide) in_5 rfl w_615 dM_save_34 (fun a7 => ?_)
        refine v_iload_n C dM_save_37 rfl 1 rfl ?_
        refine v_iconst (v := 1) C dM_save_38 (by decide) ?_
        refine v_zast C rfl dM_save_39 (fun h8 => ?_)
        refine v_aload_n C dM_save_40 rfl 0 rfl ?_
        refine v_iconst (v := 4) C dM_save_41 (by decide) ?_
        refine v_iload_n C dM_save_42 rfl 2 rfl ?_
        refine v_imul C dM_save_43 ?_
        refine v_iload_n C dM_save_44 rfl 3 rfl ?_
        refine v_iadd C dM_save_45 ?_
        refine v_bipush (v := 8) C dM_save_46 (by decide) ?_
        refine v_iload_n C dM_save_48 rfl 1 rfl ?_
        refine v_iadd C dM_save_49 ?_
        refine v_gd fun hO9 => ?_
        refine v_bind fun r10 hr10 => ?_
        refine v_callV0 (N := 2) (As := [.int ((4 * p2) + p3), .int (8 + p1)]) (st := []) C (fun f => f.elim) (mM_copy l h8 z0 a0 ((4 * p2) + p3) (8 + p1) r10 hr10) rfl w_858 w_53 (by decide +kernel) ⟨Nat.le_of_ble_eq_true rfl, Nat.le_of_ble_eq_true rfl⟩ rfl rfl (Nat.le_of_ble_eq_true rfl) ⟨Nat.zero_le _, Nat.zero_le _⟩ w_855 w_857 w_45 v_cl5 rfl hO9 dM_save_50 ?_
        refine v_iload C dM_save_53 4 rfl ?_
        refine v_jn (fun (j : Int32 → Option (Hp × Int32)) => ∀ (y11 : Int32), vO p l e (vR 2 0 0) s m args below meth c D dA (vA h0 z0) 5 False Q 0 0 r10 z0 [] 63 [.int y11] (j y11)) ?_ (fun j12 Hj12 => ?_)
        · intro y11
          exact v_iret C dM_save_63 (by rw [hQ])
        · refine v_if_eq (tgt := 62) C dM_save_55 (by decide) ?_ ?_
          · refine v_iconst (v := 0) C dM_save_62 (by decide) ?_
            refine v_lv (lv' := []) [] rfl ?_
            exact Hj12 0
          · refine v_iconst (v := 1) C dM_save_58 (by decide) ?_
            refine v_goto (tgt := 63) C dM_save_59 (by decide) ?_
            refine v_lv (lv' := []) [] rfl ?_
            exact Hj12 1
      · refine v_lv (lv' := []) [] rfl ?_
        exact Hj3
theorem dM_restore_0 : decode prog_7_method_46_code 0 = .ok (.aload_n 0, 1) := by decide +kernel
theorem dM_restore_1 : decode prog_7_method_46_code 1 = .ok (.iconst 0, 1) := by decide +kernel
theorem dM_restore_2 : decode prog_7_method_46_code 2 = .ok (.putfield 73, 3) := by decide +kernel
theorem dM_restore_5 : decode prog_7_method_46_code 5 = .ok (.iload_n 1, 1) := by decide +kernel
theorem dM_restore_6 : decode prog_7_method_46_code 6 = .ok (.iconst 0, 1) := by decide +kernel
theorem dM_restore_7 : decode prog_7_method_46_code 7 = .ok (.iconst 3, 1) := by decide +kernel
theorem dM_restore_8 : decode prog_7_method_46_code 8 = .ok (.invokestatic 76, 3) := by decide +kernel
theorem dM_restore_11 : decode prog_7_method_46_code 11 = .ok (.ifCond .eq 11, 3) := by decide +kernel
theorem dM_restore_14 : decode prog_7_method_46_code 14 = .ok (.iload_n 2, 1) := by decide +kernel
theorem dM_restore_15 : decode prog_7_method_46_code 15 = .ok (.iload_n 3, 1) := by decide +kernel
theorem dM_restore_16 : decode prog_7_method_46_code 16 = .ok (.invokestatic 160, 3) := by decide +kernel
theorem dM_restore_19 : decode prog_7_method_46_code 19 = .ok (.ifCond .ne 6, 3) := by decide +kernel
theorem dM_restore_22 : decode prog_7_method_46_code 22 = .ok (.bipush (-2), 2) := by decide +kernel
theorem dM_restore_24 : decode prog_7_method_46_code 24 = .ok (.ireturn, 1) := by decide +kernel
theorem dM_restore_25 : decode prog_7_method_46_code 25 = .ok (.aload_n 0, 1) := by decide +kernel
theorem dM_restore_26 : decode prog_7_method_46_code 26 = .ok (.getfield 19, 3) := by decide +kernel
theorem dM_restore_29 : decode prog_7_method_46_code 29 = .ok (.iload_n 1, 1) := by decide +kernel
theorem dM_restore_30 : decode prog_7_method_46_code 30 = .ok (.baload, 1) := by decide +kernel
theorem dM_restore_31 : decode prog_7_method_46_code 31 = .ok (.ifCond .ne 6, 3) := by decide +kernel
theorem dM_restore_34 : decode prog_7_method_46_code 34 = .ok (.bipush (-4), 2) := by decide +kernel
theorem dM_restore_36 : decode prog_7_method_46_code 36 = .ok (.ireturn, 1) := by decide +kernel
theorem dM_restore_37 : decode prog_7_method_46_code 37 = .ok (.aload_n 0, 1) := by decide +kernel
theorem dM_restore_38 : decode prog_7_method_46_code 38 = .ok (.bipush 8, 2) := by decide +kernel
theorem dM_restore_40 : decode prog_7_method_46_code 40 = .ok (.iload_n 1, 1) := by decide +kernel
theorem dM_restore_41 : decode prog_7_method_46_code 41 = .ok (.iadd, 1) := by decide +kernel
theorem dM_restore_42 : decode prog_7_method_46_code 42 = .ok (.iconst 4, 1) := by decide +kernel
theorem dM_restore_43 : decode prog_7_method_46_code 43 = .ok (.iload_n 2, 1) := by decide +kernel
theorem dM_restore_44 : decode prog_7_method_46_code 44 = .ok (.imul, 1) := by decide +kernel
theorem dM_restore_45 : decode prog_7_method_46_code 45 = .ok (.iload_n 3, 1) := by decide +kernel
theorem dM_restore_46 : decode prog_7_method_46_code 46 = .ok (.iadd, 1) := by decide +kernel
theorem dM_restore_47 : decode prog_7_method_46_code 47 = .ok (.invokevirtual 170, 3) := by decide +kernel
theorem dM_restore_50 : decode prog_7_method_46_code 50 = .ok (.aload_n 0, 1) := by decide +kernel
theorem dM_restore_51 : decode prog_7_method_46_code 51 = .ok (.iload_n 2, 1) := by decide +kernel
theorem dM_restore_52 : decode prog_7_method_46_code 52 = .ok (.iconst 1, 1) := by decide +kernel
theorem dM_restore_53 : decode prog_7_method_46_code 53 = .ok (.if_icmp .ne 17, 3) := by decide +kernel
theorem dM_restore_56 : decode prog_7_method_46_code 56 = .ok (.aload_n 0, 1) := by decide +kernel
theorem dM_restore_57 : decode prog_7_method_46_code 57 = .ok (.getfield 66, 3) := by decide +kernel
theorem dM_restore_60 : decode prog_7_method_46_code 60 = .ok (.iconst 4, 1) := by decide +kernel
theorem dM_restore_61 : decode prog_7_method_46_code 61 = .ok (.iload_n 3, 1) := by decide +kernel
theorem dM_restore_62 : decode prog_7_method_46_code 62 = .ok (.iadd, 1) := by decide +kernel
theorem dM_restore_63 : decode prog_7_method_46_code 63 = .ok (.if_icmp .ne 7, 3) := by decide +kernel
theorem dM_restore_66 : decode prog_7_method_46_code 66 = .ok (.iconst (-1), 1) := by decide +kernel
theorem dM_restore_67 : decode prog_7_method_46_code 67 = .ok (.goto 7, 3) := by decide +kernel
theorem dM_restore_70 : decode prog_7_method_46_code 70 = .ok (.aload_n 0, 1) := by decide +kernel
theorem dM_restore_71 : decode prog_7_method_46_code 71 = .ok (.getfield 66, 3) := by decide +kernel
theorem dM_restore_74 : decode prog_7_method_46_code 74 = .ok (.putfield 66, 3) := by decide +kernel
theorem dM_restore_77 : decode prog_7_method_46_code 77 = .ok (.aload_n 0, 1) := by decide +kernel
theorem dM_restore_78 : decode prog_7_method_46_code 78 = .ok (.getfield 7, 3) := by decide +kernel
theorem dM_restore_81 : decode prog_7_method_46_code 81 = .ok (.bipush 8, 2) := by decide +kernel
theorem dM_restore_83 : decode prog_7_method_46_code 83 = .ok (.iload_n 1, 1) := by decide +kernel
theorem dM_restore_84 : decode prog_7_method_46_code 84 = .ok (.iadd, 1) := by decide +kernel
theorem dM_restore_85 : decode prog_7_method_46_code 85 = .ok (.iaload, 1) := by decide +kernel
theorem dM_restore_86 : decode prog_7_method_46_code 86 = .ok (.ireturn, 1) := by decide +kernel
def FM_restore (h0 : Hp) (a0 : Nat) (p1 : Int32) (p2 : Int32) (p3 : Int32) : Option (Hp × Int32) :=
  pF h0 a0 5 20 (.int 0) (fun h1 =>
  (FM_isIn h1 p1 0 3).bind (fun r2 =>
  jn (some (h1, (-2)))
  (fun (j3 : Option (Hp × Int32)) =>
  if r2 = 0 then
    (j3)
  else
    ((FM_isTree h1 p2 p3).bind (fun r4 =>
    if r4 = 0 then
      (j3)
    else
      (gR h1 a0 5 6 (fun a5 =>
      ldI h1 a5 1 p1 (fun x6 =>
      if x6 = 0 then
        (some (h1, (-4)))
      else
        (gd (isO h1 a0 5 = true) ((FM_copy h1 a0 (8 + p1) ((4 * p2) + p3)).bind (fun r8 =>
        jn (fun (y9 : Int32) (b10 : Nat) =>
        pF r8 b10 5 16 (.int y9) (fun h12 =>
        gR h12 a0 5 3 (fun a13 =>
        ldI h12 a13 0 (8 + p1) (fun x14 =>
        some (h12, x14)))))
        (fun (j11 : Int32 → Nat → Option (Hp × Int32)) =>
        jn (fun (b15 : Nat) =>
        gI r8 a0 5 16 (fun x17 =>
        j11 x17 b15))
        (fun (j16 : Nat → Option (Hp × Int32)) =>
        if p2 = 1 then
          (gI r8 a0 5 16 (fun x18 =>
          if x18 = (4 + p3) then
            (j11 (-1) a0)
          else
            (j16 a0)))
        else
          (j16 a0))))))))))))))
set_option maxRecDepth 100000 in
set_option maxHeartbeats 4000000 in
theorem mM_restore (l : Launch) (h0 : Hp) (z0 : Nat) (a0 : Nat) (p1 : Int32) (p2 : Int32) (p3 : Int32) (r : (Hp × Int32)) (hr : FM_restore h0 a0 p1 p2 p3 = some r) : vM False l yM_restore (Cond.code yM_restore prog_7_method_46_code 4 (some (.int)) :: gW) 2 [.ref a0, .int p1, .int p2, .int p3] h0 z0 r.1 z0 (some (.int r.2)) 0 0 := by
  refine vM.of (by decide) rfl (Nat.le_of_ble_eq_true rfl) ?_
  intro p e s m args below meth c D dA C hin2
  refine (?_ : vO p l e (vR 2 0 0) s m args below meth c D dA (vA h0 z0) 4 False (fun r : (Hp × Int32) => MQ below (vQc False h0 z0 D dA r.1 z0 (some (.int r.2))) args s 0 0 (vAr False h0 z0)) 0 0 h0 z0 [(0, .ref a0), (1, .int p1), (2, .int p2), (3, .int p3)] 0 [] (FM_restore h0 a0 p1 p2 p3)) r hr
  obtain ⟨Q, hQ⟩ : ∃ Q : (Hp × Int32) → State → Prop, Q = (fun r : (Hp × Int32) => MQ below (vQc False h0 z0 D dA r.1 z0 (some (.int r.2))) args s 0 0 (vAr False h0 z0)) := ⟨_, rfl⟩
  rw [← hQ]
  unfold FM_restore
  refine v_aload_n C dM_restore_0 rfl 0 rfl ?_
  refine v_iconst (v := 0) C dM_restore_1 (by decide) ?_
  refine v_put C v_cl5 (by decide) in_5 ty_5 ty_5_ok nm_5 rfl w_629 rfl (ty := .int) (by decide +kernel) rfl rfl dM_restore_2 (fun h1 => ?_)
  refine v_iload_n C dM_restore_5 rfl 1 rfl ?_
  refine v_iconst (v := 0) C dM_restore_6 (by decide) ?_
  refine v_iconst (v := 3) C dM_restore_7 (by decide) ?_
  refine v_bind fun r2 hr2 => ?_
  refine v_callS0 (N := 3) (As := [.int p1, .int 0, .int 3]) (st := []) C (fun _ => trivial) (mM_isIn l h1 z0 p1 0 3 r2 hr2) rfl w_698 w_53 (by decide +kernel) ⟨Nat.le_of_ble_eq_true rfl, Nat.le_of_ble_eq_true rfl⟩ rfl rfl (Nat.le_of_ble_eq_true rfl) ⟨Nat.zero_le _, Nat.zero_le _⟩ w_696 w_697 dM_restore_8 ?_
  refine v_jn (fun (j : Option (Hp × Int32)) => vO p l e (vR 2 0 0) s m args below meth c D dA (vA h0 z0) 4 False Q 0 0 h1 z0 [] 22 [] j) ?_ (fun j3 Hj3 => ?_)
  · refine v_bipush (v := (-2)) C dM_restore_22 (by decide) ?_
    exact v_iret C dM_restore_24 (by rw [hQ])
  · refine v_if_eq (tgt := 22) C dM_restore_11 (by decide) ?_ ?_
    · refine v_lv (lv' := []) [] rfl ?_
      exact Hj3
    · refine v_iload_n C dM_restore_14 rfl 2 rfl ?_
      refine v_iload_n C dM_restore_15 rfl 3 rfl ?_
      refine v_bind fun r4 hr4 => ?_
      refine v_callS0 (N := 2) (As := [.int p2, .int p3]) (st := []) C (fun _ => trivial) (mM_isTree l h1 z0 p2 p3 r4 hr4) rfl w_810 w_53 (by decide +kernel) ⟨Nat.le_of_ble_eq_true rfl, Nat.le_of_ble_eq_true rfl⟩ rfl rfl (Nat.le_of_ble_eq_true rfl) ⟨Nat.zero_le _, Nat.zero_le _⟩ w_808 w_809 dM_restore_16 ?_
      refine v_if_ne (tgt := 25) C dM_restore_19 (by decide) ?_ ?_
      · refine v_aload_n C dM_restore_25 rfl 0 rfl ?_
        refine v_getR C v_cl5 (by decide) in_5 rfl w_615 dM_restore_26 (fun a5 => ?_)
        refine v_iload_n C dM_restore_29 rfl 1 rfl ?_
        refine v_zald C rfl dM_restore_30 (fun x6 => ?_)
        refine v_if_ne (tgt := 37) C dM_restore_31 (by decide) ?_ ?_
        · refine v_aload_n C dM_restore_37 rfl 0 rfl ?_
          refine v_bipush (v := 8) C dM_restore_38 (by decide) ?_
          refine v_iload_n C dM_restore_40 rfl 1 rfl ?_
          refine v_iadd C dM_restore_41 ?_
          refine v_iconst (v := 4) C dM_restore_42 (by decide) ?_
          refine v_iload_n C dM_restore_43 rfl 2 rfl ?_
          refine v_imul C dM_restore_44 ?_
          refine v_iload_n C dM_restore_45 rfl 3 rfl ?_
          refine v_iadd C dM_restore_46 ?_
          refine v_gd fun hO7 => ?_
          refine v_bind fun r8 hr8 => ?_
          refine v_callV0 (N := 2) (As := [.int (8 + p1), .int ((4 * p2) + p3)]) (st := []) C (fun f => f.elim) (mM_copy l h1 z0 a0 (8 + p1) ((4 * p2) + p3) r8 hr8) rfl w_858 w_53 (by decide +kernel) ⟨Nat.le_of_ble_eq_true rfl, Nat.le_of_ble_eq_true rfl⟩ rfl rfl (Nat.le_of_ble_eq_true rfl) ⟨Nat.zero_le _, Nat.zero_le _⟩ w_855 w_857 w_45 v_cl5 rfl hO7 dM_restore_47 ?_
          refine v_aload_n C dM_restore_50 rfl 0 rfl ?_
          refine v_iload_n C dM_restore_51 rfl 2 rfl ?_
          refine v_iconst (v := 1) C dM_restore_52 (by decide) ?_
          refine v_jn (fun (j : Int32 → Nat → Option (Hp × Int32)) => ∀ (y9 : Int32), ∀ (b10 : Nat), vO p l e (vR 2 0 0) s m args below meth c D dA (vA h0 z0) 4 False Q 0 0 r8 z0 [(0, .ref a0), (1, .int p1)] 74 [.int y9, .ref b10] (j y9 b10)) ?_ (fun j11 Hj11 => ?_)
          · intro y9 b10
            refine v_put C v_cl5 (by decide) in_5 ty_5 ty_5_ok nm_5 rfl w_625 rfl (ty := .int) (by decide +kernel) rfl rfl dM_restore_74 (fun h12 => ?_)
            refine v_aload_n C dM_restore_77 rfl 0 rfl ?_
            refine v_getR C v_cl5 (by decide) in_5 rfl w_612 dM_restore_78 (fun a13 => ?_)
            refine v_bipush (v := 8) C dM_restore_81 (by decide) ?_
            refine v_iload_n C dM_restore_83 rfl 1 rfl ?_
            refine v_iadd C dM_restore_84 ?_
            refine v_iald C rfl dM_restore_85 (fun x14 => ?_)
            exact v_iret C dM_restore_86 (by rw [hQ])
          · refine v_jn (fun (j : Nat → Option (Hp × Int32)) => ∀ (b15 : Nat), vO p l e (vR 2 0 0) s m args below meth c D dA (vA h0 z0) 4 False Q 0 0 r8 z0 [(0, .ref a0), (1, .int p1)] 70 [.ref b15] (j b15)) ?_ (fun j16 Hj16 => ?_)
            · intro b15
              refine v_aload_n C dM_restore_70 rfl 0 rfl ?_
              refine v_getI C v_cl5 (by decide) in_5 rfl w_625 dM_restore_71 (fun x17 => ?_)
              exact Hj11 x17 b15
            · refine v_icmp_ne (tgt := 70) C dM_restore_53 (by decide) ?_ ?_
              · refine v_lv (lv' := [(0, .ref a0), (1, .int p1)]) [0, 1] rfl ?_
                exact Hj16 a0
              · refine v_aload_n C dM_restore_56 rfl 0 rfl ?_
                refine v_getI C v_cl5 (by decide) in_5 rfl w_625 dM_restore_57 (fun x18 => ?_)
                refine v_iconst (v := 4) C dM_restore_60 (by decide) ?_
                refine v_iload_n C dM_restore_61 rfl 3 rfl ?_
                refine v_iadd C dM_restore_62 ?_
                refine v_icmp_ne (tgt := 70) C dM_restore_63 (by decide) ?_ ?_
                · refine v_lv (lv' := [(0, .ref a0), (1, .int p1)]) [0, 1] rfl ?_
                  exact Hj16 a0
                · refine v_iconst (v := (-1)) C dM_restore_66 (by decide) ?_
                  refine v_goto (tgt := 74) C dM_restore_67 (by decide) ?_
                  refine v_lv (lv' := [(0, .ref a0), (1, .int p1)]) [0, 1] rfl ?_
                  exact Hj11 (-1) a0
        · refine v_bipush (v := (-4)) C dM_restore_34 (by decide) ?_
          exact v_iret C dM_restore_36 (by rw [hQ])
      · refine v_lv (lv' := []) [] rfl ?_
        exact Hj3
