/-! one bit, all three ways -/
section RD3
variable {Z n wd B wb tb : Nat} {lm : Int32} {hs wr : Nat → Int32} {X : Nat → Int32} {A : Nat → Nat → Int32} {h : Hp} {t v w bb b : Nat}
theorem SS.rdn (h2 : Hp) {P N : Nat} {fm es hv : Int32} {cn sg pa fs sn lf : Nat → Int32} (S : SS Z n wd B wb tb lm hs wr (nI t) (nI v) (nI w) (nI bb) X A h) (ht : t < 4) (hb : b < 2) (hB : B < 2 ^ 27) (h16 : X 16 = nI (4 + t)) (h17 : X 17 = nI v) (h18 : X 18 = nI bb) (h19 : X 19 = nI w) (hov : ov n P (ad Z (4 + t)) fm (nI N) es hv cn sg pa fs sn lf h = h) (hvl : v < N) (hN : N ≤ 2 * n + 1) (hsg : sg v = (-2)) (hbb : bb < wd) (hw : w < 2 ^ bb) (h1 : A 1 (4 + t) = 0) (hsA : FM_signAt (om (Z + 97) X A h2) (Z + 97) (nI (4 + t)) (nI v) = some (-2)) :
    RD Z n wd B wb tb lm hs wr t h (rdA h Z (ad Z (4 + t)) (nI b)) (tkM (om (Z + 97) X A h2) (Z + 97) (nI (4 + t)) (nI b)) h2 := by
  obtain ⟨n0, n1, w0, w1, w2⟩ := S.1
  have hK := S.2.1.1
  have hG := S.2.1.2.1
  have hT := S.tre (q := 4 + t) (by omega)
  have hX0 : X 0 = nI n := S.2.2.1.1
  have hX1 : X 1 = nI wd := S.2.2.1.2.1
  have hbd := ad_bd (Z := Z) (show 4 + t < 12 by omega)
  have hp : 2 ^ (bb + 1) = 2 * 2 ^ bb := by rw [Nat.pow_succ]; omega
  have hp6 : 2 ^ (bb + 1) ≤ 2 ^ 6 := Nat.pow_le_pow_right (by omega) (by omega)
  have hW : 2 * w + b < 2 ^ (bb + 1) := by omega
  have hW64 : 2 * w + b < 64 := by omega
  have hnum : (2 : Int32) * nI w + nI b = nI (2 * w + b) := by rw [show (2 : Int32) = nI 2 from rfl, pk_mul, nI_add]
  obtain ⟨h4, a1, b1, c1⟩ := hG.P2 (v := nI (2 * w + b))
  obtain ⟨h7, a2, b2, c2⟩ := b1.P3 (v := nI (bb + 1))
  have cc : ∀ y, y ≠ Z + 6 → h7 y = h y := fun y hy => by rw [c2 y hy, c1 y hy]
  have hK4 : KA Z n wd wb tb lm hs wr h4 := hK.ag (fun y _ _ => c1 y (by omega))
  have hK7 : KA Z n wd wb tb lm hs wr h7 := hK.ag (fun y _ _ => cc y (by omega))
  obtain ⟨r15, a3, b3, c3⟩ := e_Rbegin b2
  have cc3 : ∀ y, y ≠ Z + 6 → r15 y = h y := fun y hy => by rw [c3 y hy, cc y hy]
  have hK15 : KA Z n wd wb tb lm hs wr r15 := hK.ag (fun y _ _ => cc3 y (by omega))
  have hT7 := hT.ag (h' := h7) (fun y _ _ => cc y (by omega))
  -- the class's text up to the end of the number
  have eN : FA_takeNumberBit h Z (ad Z (4 + t)) (nI b) = if nI wd ≤ nI (bb + 1) then
      ((FA_isSign h7 Z (nI (2 * w + b))).bind (fun r14 =>
        if r14 = 0 then some (h7, (-6)) else (FT_hasLeafOf h7 (ad Z (4 + t)) (nI (2 * w + b))).bind (fun r21 =>
        if r21 = 0 then some (h7, nI (2 * w + b)) else some (h7, (-6))))) else some (h7, (-1)) := by
    unfold FA_takeNumberBit
    rw [hK.r11, hK.r11, hG.i2, hnum, a1, hK4.r11, b1.i3, show nI bb + 1 = nI (bb + 1) from nI_add _ _, a2, hK7.r11, b2.i3, hK7.i1]
    by_cases z : nI wd ≤ nI (bb + 1)
    · rw [if_pos z, if_pos z, hK7.r11, b2.i2, gd_t hK7.o]
      congr 1
      funext r14
      rw [jn_eq]
      try dsimp only
      rw [jn_eq]
      try dsimp only
      by_cases z2 : r14 = 0
      · rw [if_pos z2, if_pos z2]
      · rw [if_neg z2, if_neg z2, hK7.r11, b2.i2, gd_t hT7.o]
        congr 1
        funext r21
        by_cases z3 : r21 = 0
        · rw [if_pos z3, if_pos z3, hK7.r11, b2.i2]
        · rw [if_neg z3, if_neg z3]
    · rw [if_neg z, if_neg z]
  have fin : ∀ y : Int32, FA_takeNumberBit h Z (ad Z (4 + t)) (nI b) = some (h7, y) → rdA h Z (ad Z (4 + t)) (nI b) = if y = (-1) then some (h7, (-1)) else if y = (-6) then some (r15, (-6)) else (FT_stepBy r15 (ad Z (4 + t)) y lm).bind (fun r => some (r, y)) := by
    intro y hy
    unfold rdA
    rw [hK.r11, hG.i1, h_sg hov hvl hN n1, jn_eq]
    try dsimp only
    rw [if_pos hsg, jn_eq]
    try dsimp only
    rw [if_neg (by decide), gd_t hK.o, hy, Option.bind_some]
    try dsimp only
    by_cases z : y = (-1)
    · rw [if_pos z, if_pos z]
    · rw [if_neg z, if_neg z, hK7.r11, gd_t b2.o, a3, Option.bind_some, jn_eq]
      try dsimp only
      by_cases z2 : y = (-6)
      · rw [if_pos z2, if_pos z2, z2]
      · rw [if_neg z2, if_neg z2, hK15.i9, gd_t ((hT.ag (fun y _ _ => cc3 y (by omega))).o)]
  -- the model's
  have hX2 : ∀ k, k ≠ 18 → k ≠ 19 → upd (upd X 19 (nI (2 * w + b))) 18 (nI (bb + 1)) k = X k := fun k k1 k2 => by
    show (if _ then _ else _) = _
    rw [if_neg k1]; exact if_neg k2
  have eM : tkM (om (Z + 97) X A h2) (Z + 97) (nI (4 + t)) (nI b) = if nI wd ≤ nI (bb + 1) then
      (if nI n ≤ nI (2 * w + b) then some (om (Z + 97) (upd (upd (upd X 19 (nI (2 * w + b))) 18 (nI (bb + 1))) 16 (-1)) A h2, (-6)) else
        (FM_isKnown (om (Z + 97) (upd (upd X 19 (nI (2 * w + b))) 18 (nI (bb + 1))) A h2) (Z + 97) (nI (4 + t)) (nI (2 * w + b))).bind (fun r25 => if r25 = 0 then (FM_ends (om (Z + 97) (upd (upd X 19 (nI (2 * w + b))) 18 (nI (bb + 1))) A h2) (Z + 97) (nI (4 + t)) (nI (2 * w + b))).bind (fun r28 => some (r28.1, r28.2)) else some (om (Z + 97) (upd (upd (upd X 19 (nI (2 * w + b))) 18 (nI (bb + 1))) 16 (-1)) A h2, (-6))))
      else some (om (Z + 97) (upd (upd X 19 (nI (2 * w + b))) 18 (nI (bb + 1))) A h2, (-1)) := by
    have hy : (if (nI b : Int32) = 0 then (nI 0 : Int32) else nI 1) = nI b := by
      by_cases z : b = 0
      · subst z; rfl
      · have : b = 1 := by omega
        subst this; rfl
    have tail : ∀ y : Int32, y = nI b → (pF (om (Z + 97) X A h2) (Z + 97) 5 19 (.int ((2 * nI w) + y)) (fun h14 =>
    gI h14 (Z + 97) 5 18 (fun x15 =>
    pF h14 (Z + 97) 5 18 (.int (x15 + 1)) (fun h16 =>
    gI h16 (Z + 97) 5 18 (fun x17 =>
    gI h16 (Z + 97) 5 1 (fun x18 =>
    if x18 ≤ x17 then
      (gI h16 (Z + 97) 5 19 (fun x19 =>
      gI h16 (Z + 97) 5 0 (fun x20 =>
      jn (pF h16 (Z + 97) 5 16 (.int (-1)) (fun h22 =>
      some (h22, (-6))))
      (fun (j21 : Option (Hp × Int32)) =>
      if x20 ≤ x19 then
        (j21)
      else
        (gI h16 (Z + 97) 5 19 (fun x23 =>
        gd (isO h16 (Z + 97) 5 = true) ((FM_isKnown h16 (Z + 97) (nI (4 + t)) x23).bind (fun r25 =>
        if r25 = 0 then
          (gI h16 (Z + 97) 5 19 (fun x26 =>
          gd (isO h16 (Z + 97) 5 = true) ((FM_ends h16 (Z + 97) (nI (4 + t)) x26).bind (fun r28 =>
          some (r28.1, r28.2)))))
        else
          (j21)))))))))
    else
      (some (h16, (-1))))))))) = (if nI wd ≤ nI (bb + 1) then
      (if nI n ≤ nI (2 * w + b) then some (om (Z + 97) (upd (upd (upd X 19 (nI (2 * w + b))) 18 (nI (bb + 1))) 16 (-1)) A h2, (-6)) else
        (FM_isKnown (om (Z + 97) (upd (upd X 19 (nI (2 * w + b))) 18 (nI (bb + 1))) A h2) (Z + 97) (nI (4 + t)) (nI (2 * w + b))).bind (fun r25 => if r25 = 0 then (FM_ends (om (Z + 97) (upd (upd X 19 (nI (2 * w + b))) 18 (nI (bb + 1))) A h2) (Z + 97) (nI (4 + t)) (nI (2 * w + b))).bind (fun r28 => some (r28.1, r28.2)) else some (om (Z + 97) (upd (upd (upd X 19 (nI (2 * w + b))) 18 (nI (bb + 1))) 16 (-1)) A h2, (-6))))
      else some (om (Z + 97) (upd (upd X 19 (nI (2 * w + b))) 18 (nI (bb + 1))) A h2, (-1))) := by
      intro y hy
      rw [hy, hnum, mp_19, mi_18, show upd X 19 (nI (2 * w + b)) 18 = X 18 from rfl, h18, show nI bb + 1 = nI (bb + 1) from nI_add _ _, mp_18, mi_18, updS, mi_1, hX2 1 (by decide) (by decide), hX1]
      by_cases z : nI wd ≤ nI (bb + 1)
      · rw [if_pos z, if_pos z, mi_19, show upd (upd X 19 (nI (2 * w + b))) 18 (nI (bb + 1)) 19 = nI (2 * w + b) from rfl, mi_0, hX2 0 (by decide) (by decide), hX0, jn_eq, mp_16]
        by_cases z2 : nI n ≤ nI (2 * w + b)
        · rw [if_pos z2, if_pos z2]
        · rw [if_neg z2, if_neg z2, mi_19, show upd (upd X 19 (nI (2 * w + b))) 18 (nI (bb + 1)) 19 = nI (2 * w + b) from rfl, gd_t o_om]
          congr 1
          funext r25
          by_cases z3 : r25 = 0
          · rw [if_pos z3, if_pos z3, mi_19, show upd (upd X 19 (nI (2 * w + b))) 18 (nI (bb + 1)) 19 = nI (2 * w + b) from rfl, gd_t o_om]
          · rw [if_neg z3, if_neg z3]
      · rw [if_neg z, if_neg z]
    unfold tkM
    rw [mr_fo, ml_fo (by omega), h1]
    simp only [jn_eq]
    rw [if_neg (by decide), mi_18, h18]
    have sel : ∀ T U : Option (Hp × Int32), (if nI bb = 0 then gI (om (Z + 97) X A h2) (Z + 97) 5 17 (fun x66 => gd (isO (om (Z + 97) X A h2) (Z + 97) 5 = true) ((FM_signAt (om (Z + 97) X A h2) (Z + 97) (nI (4 + t)) x66).bind (fun r68 => if r68 = (-1) then T else U))) else U) = U := by
      intro T U
      by_cases z : nI bb = 0
      · rw [if_pos z, mi_17, h17, gd_t o_om, hsA, Option.bind_some, if_neg (by decide)]
      · rw [if_neg z]
    rw [sel, if_pos trivial, if_pos trivial, mi_19, h19]
    by_cases z : b = 0
    · rw [if_pos (by rw [z]; exact nI_0)]
      exact tail 0 (by rw [z]; rfl)
    · rw [if_neg (fun e => z (by have := e; rw [show (0 : Int32) = nI 0 from rfl, nI_eq (by omega) (by omega)] at this; exact this))]
      exact tail 1 (by rw [show b = 1 by omega]; rfl)
  rw [eM]
  by_cases z : nI wd ≤ nI (bb + 1)
  · rw [if_pos z] at eN
    rw [if_pos z]
    have S15 := S.kg (X' := upd (upd (upd X 19 (nI (2 * w + b))) 18 (nI (bb + 1))) 16 (-1)) b3 cc3 ⟨rfl, rfl, rfl, rfl, rfl⟩ (Or.inl ⟨rfl, rfl, rfl, rfl, rfl⟩)
    rcases e_isSign hK7 n1 (p := nI (2 * w + b)) with ⟨g1, g2⟩ | ⟨g1, s, s1, s2⟩
    · have hge : nI n ≤ nI (2 * w + b) := by
        rcases Nat.lt_or_ge (2 * w + b) n with y | y
        · exact absurd ⟨_, y, rfl⟩ g2
        · exact nI_le y (by omega)
      rw [g1, Option.bind_some, if_pos rfl] at eN
      rw [fin _ eN, if_neg (by decide), if_pos rfl, if_pos hge]
      exact ⟨r15, (-6), B, _, A, (-1), 0, 0, 0, rfl, rfl, S15, fun y hy => cc3 y (by omega), Or.inr ⟨by decide, by omega⟩⟩
    · rw [nI_eq (by omega) (by omega)] at s2
      subst s2
      rw [g1, Option.bind_some, if_neg (by decide)] at eN
      rw [if_neg (nI_ge s1 (by omega))]
      obtain ⟨k, k1, k2, k3⟩ := hT7.known n1 (by omega) s1
      rw [k2, Option.bind_some] at eN
      rw [k3, Option.bind_some]
      by_cases z0 : k = 0
      · subst z0
        rw [if_pos nI_0] at eN
        rw [fin _ eN, if_neg (m1_nI (by omega)), if_neg (m6_nI (by omega)), if_pos nI_0]
        obtain ⟨h', A', f1, f2, f3, f4, f5⟩ := S15.stepG (q := 4 + t) h2 (by omega) s1 hB (fun t' ht' e => absurd e.symm (m1_nI (by omega)))
        rw [f1, Option.bind_some, m_ends f4, Option.bind_some]
        exact ⟨h', _, B + 1, _, A', (-1), 0, 0, 0, rfl, rfl, f5, fun y hy => by rw [f3 y hy, cc3 y (by omega)], Or.inr ⟨m1_nI (by omega), Nat.le_refl _⟩⟩
      · have : k = 1 := by omega
        subst this
        rw [if_neg (by decide)] at eN
        rw [fin _ eN, if_neg (by decide), if_pos rfl, if_neg (by decide)]
        exact ⟨r15, (-6), B, _, A, (-1), 0, 0, 0, rfl, rfl, S15, fun y hy => cc3 y (by omega), Or.inr ⟨by decide, by omega⟩⟩
  · rw [if_neg z] at eN
    rw [fin _ eN, if_pos rfl, if_neg z]
    have hlt : bb + 1 < wd := by
      rcases Nat.lt_or_ge (bb + 1) wd with y | y
      · exact y
      · exact absurd (nI_le y (by omega)) z
    refine ⟨h7, (-1), B, _, A, nI t, nI v, nI (2 * w + b), nI (bb + 1), rfl, rfl, S.kg b2 cc ⟨rfl, rfl, rfl, rfl, rfl⟩ (Or.inr ⟨t, v, 2 * w + b, bb + 1, ht, rfl, rfl, rfl, rfl, h16, h17, rfl, rfl, P, N, fm, es, hv, cn, sg, pa, fs, sn, lf, ov_ag hov (fun y _ _ => cc y (by omega)), hvl, hN, Or.inr ⟨hsg, hlt, hW⟩⟩), fun y hy => cc y (by omega), Or.inl ⟨rfl, rfl, rfl⟩⟩
end RD3
