def rdA (h0 : Hp) (a0 a2 : Nat) (p2 : Int32) : Option (Hp × Int32) :=
  gR h0 a0 4 11 (fun a6 =>
  gI h0 a6 2 1 (fun x7 =>
  gd (isO h0 a2 3 = true) ((FT_signAt h0 a2 x7).bind (fun r9 =>
  jn (fun (y10 : Int32) =>
  jn (fun (h12 : Hp) (y13 : Int32) =>
  if y13 = (-1) then
    (some (h12, (-1)))
  else
    (gR h12 a0 4 11 (fun a15 =>
    gd (isO h12 a15 2 = true) ((FR_begin h12 a15).bind (fun r17 =>
    jn (fun (h18 : Hp) =>
    some (h18, y13))
    (fun (j19 : Hp → Option (Hp × Int32)) =>
    if y13 = (-6) then
      (j19 r17)
    else
      (gI r17 a0 4 9 (fun x20 =>
      gd (isO r17 a2 3 = true) ((FT_stepBy r17 a2 y13 x20).bind (fun r22 =>
      j19 r22))))))))))
  (fun (j14 : Hp → Int32 → Option (Hp × Int32)) =>
  if y10 = 0 then
    (gd (isO h0 a0 4 = true) ((FA_takeWayBit h0 a0 a2 p2).bind (fun r24 =>
    j14 r24.1 r24.2)))
  else
    (gd (isO h0 a0 4 = true) ((FA_takeNumberBit h0 a0 a2 p2).bind (fun r26 =>
    j14 r26.1 r26.2)))))
  (fun (j11 : Int32 → Option (Hp × Int32)) =>
  if r9 = (-2) then
    (j11 1)
  else
    (j11 0))))))
def tkM (h2 : Hp) (a0 : Nat) (p1 p2 : Int32) : Option (Hp × Int32) :=
  gR h2 a0 5 3 (fun a4 =>
  ldI h2 a4 0 p1 (fun x5 =>
  jn (fun (y6 : Int32) =>
  jn (if y6 = 0 then
    (gI h2 a0 5 19 (fun x9 =>
    jn (fun (y10 : Int32) (y11 : Int32) (b12 : Nat) =>
    pF h2 b12 5 19 (.int (y11 + y10)) (fun h14 =>
    gI h14 a0 5 18 (fun x15 =>
    pF h14 a0 5 18 (.int (x15 + 1)) (fun h16 =>
    gI h16 a0 5 18 (fun x17 =>
    gI h16 a0 5 1 (fun x18 =>
    if x18 ≤ x17 then
      (gI h16 a0 5 19 (fun x19 =>
      gI h16 a0 5 0 (fun x20 =>
      jn (pF h16 a0 5 16 (.int (-1)) (fun h22 =>
      some (h22, (-6))))
      (fun (j21 : Option (Hp × Int32)) =>
      if x20 ≤ x19 then
        (j21)
      else
        (gI h16 a0 5 19 (fun x23 =>
        gd (isO h16 a0 5 = true) ((FM_isKnown h16 a0 p1 x23).bind (fun r25 =>
        if r25 = 0 then
          (gI h16 a0 5 19 (fun x26 =>
          gd (isO h16 a0 5 = true) ((FM_ends h16 a0 p1 x26).bind (fun r28 =>
          some (r28.1, r28.2)))))
        else
          (j21)))))))))
    else
      (some (h16, (-1)))))))))
    (fun (j13 : Int32 → Int32 → Nat → Option (Hp × Int32)) =>
    if p2 = 0 then
      (j13 0 (2 * x9) a0)
    else
      (j13 1 (2 * x9) a0))))
  else
    (gI h2 a0 5 17 (fun x29 =>
    gd (isO h2 a0 5 = true) ((FM_below h2 a0 p1 x29).bind (fun r31 =>
    jn (fun (y32 : Int32) (y33 : Int32) (b34 : Nat) =>
    pF h2 b34 5 17 (.int (y33 + y32)) (fun h36 =>
    gI h36 a0 5 17 (fun x37 =>
    gd (isO h36 a0 5 = true) ((FM_signAt h36 a0 p1 x37).bind (fun r39 =>
    jn (fun (h40 : Hp) (y41 : Int32) =>
    some (h40, y41))
    (fun (j42 : Hp → Int32 → Option (Hp × Int32)) =>
    if 0 ≤ r39 then
      (gI h36 a0 5 17 (fun x43 =>
      gd (isO h36 a0 5 = true) ((FM_signAt h36 a0 p1 x43).bind (fun r45 =>
      gd (isO h36 a0 5 = true) ((FM_ends h36 a0 p1 r45).bind (fun r47 =>
      j42 r47.1 r47.2))))))
    else
      (j42 h36 (-1))))))))
    (fun (j35 : Int32 → Int32 → Nat → Option (Hp × Int32)) =>
    if p2 = 0 then
      (j35 0 r31 a0)
    else
      (j35 1 r31 a0)))))))
  (fun (j8 : Option (Hp × Int32)) =>
  if y6 = 0 then
    (j8)
  else
    (gR h2 a0 5 3 (fun a48 =>
    ldI h2 a48 0 p1 (fun x49 =>
    if x49 = 1 then
      (gI h2 a0 5 17 (fun x50 =>
      gd (isO h2 a0 5 = true) ((FM_child h2 a0 p1 x50 p2).bind (fun r52 =>
      pF h2 a0 5 17 (.int r52) (fun h53 =>
      gI h53 a0 5 17 (fun x54 =>
      gI h53 a0 5 0 (fun x55 =>
      jn (fun (h56 : Hp) (y57 : Int32) =>
      some (h56, y57))
      (fun (j58 : Hp → Int32 → Option (Hp × Int32)) =>
      if (x55 - 1) ≤ x54 then
        (gI h53 a0 5 17 (fun x59 =>
        gI h53 a0 5 0 (fun x60 =>
        gd (isO h53 a0 5 = true) ((FM_ends h53 a0 p1 ((x59 - x60) + 1)).bind (fun r62 =>
        j58 r62.1 r62.2)))))
      else
        (j58 h53 (-1))))))))))
    else
      (j8))))))
  (fun (j7 : Int32 → Option (Hp × Int32)) =>
  jn (j7 1)
  (fun (j63 : Option (Hp × Int32)) =>
  if x5 = 1 then
    (j63)
  else
    (gI h2 a0 5 18 (fun x64 =>
    jn (j7 0)
    (fun (j65 : Option (Hp × Int32)) =>
    if x64 = 0 then
      (gI h2 a0 5 17 (fun x66 =>
      gd (isO h2 a0 5 = true) ((FM_signAt h2 a0 p1 x66).bind (fun r68 =>
      if r68 = (-1) then
        (j63)
      else
        (j65)))))
    else
      (j65))))))))
theorem FA_readBit_eq {h : Hp} {a : Nat} {p1 p2 : Int32} : FA_readBit h a p1 p2 = gR h a 4 3 (fun a1 => ldQ h a1 3 p1 (fun a2 => gR h a 4 11 (fun a3 => gd (isO h a3 2 = true) ((FR_enterCodeOf h a3 p1).bind (fun r5 => rdA r5 a a2 p2))))) := rfl
theorem FM_takes_eq {h : Hp} {a : Nat} {p1 p2 : Int32} : FM_takes h a p1 p2 = gI h a 5 16 (fun x1 => if x1 = (-1) then (pF h a 5 16 (.int p1) (fun h69 => pF h69 a 5 17 (.int 0) (fun h70 => pF h70 a 5 18 (.int 0) (fun h71 => pF h71 a 5 19 (.int 0) (fun h72 => tkM h72 a p1 p2))))) else tkM h a p1 p2) := rfl
theorem ov_uni {n P P' a : Nat} {fm sz es hv fm' sz' es' hv' : Int32} {cn sg pa fs sn lf cn' sg' pa' fs' sn' lf' : Nat → Int32} {h : Hp} (e : ov n P a fm sz es hv cn sg pa fs sn lf h = h) (e' : ov n P' a fm' sz' es' hv' cn' sg' pa' fs' sn' lf' h = h) : sg' = sg ∧ sz' = sz := by
  have h1 : h (a + 2) = some (.inl (0, 2 * n + 1, .inl sg)) := by rw [← e, ov_sg]
  have h2 : h (a + 2) = some (.inl (0, 2 * n + 1, .inl sg')) := by rw [← e', ov_sg]
  have h3 := ov_hd e
  rw [ov_hd e'] at h3
  rw [h1] at h2
  refine ⟨?_, ?_⟩
  · injection h2 with h2
    injection h2 with h2
    injection h2 with _ h2
    injection h2 with _ h2
    injection h2 with h2
    exact h2.symm
  · injection h3 with h3
    injection h3 with h3
    injection h3 with _ h3
    simp only [List.cons.injEq, Value.int.injEq] at h3
    exact h3.2.2.2.2.2.2.2.2.2.1
section RD
variable {Z n wd B wb tb : Nat} {lm : Int32} {hs wr : Nat → Int32} {tr nd nu nb tr' nd' nu' nb' : Int32} {X X' : Nat → Int32} {A : Nat → Nat → Int32} {h h' : Hp}
theorem SS.stepG {q s : Nat} (h2 : Hp) (S : SS Z n wd B wb tb lm hs wr tr nd nu nb X A h) (hq8 : q < 8) (hs' : s < n) (hB : B < 2 ^ 27) (hR : ∀ t, t < 4 → tr = nI t → q ≠ 4 + t) : ∃ h' A', FT_stepBy h (ad Z q) (nI s) lm = some h' ∧ (∀ x, x < Z + 9 → h' x = h x) ∧ (∀ x, Z + 97 ≤ x → h' x = h x) ∧ FM_steps (om (Z + 97) X A h2) (Z + 97) (nI q) (nI s) = some (om (Z + 97) X A' h2) ∧ SS Z n wd (B + 1) wb tb lm hs wr tr nd nu nb X A' h' := by
  obtain ⟨s1, ⟨t1, t2, ⟨r, ln, t3⟩, ⟨pc, ps, pf, pz, t4⟩⟩, s3, s4, s5, s6⟩ := S
  have hq : q < 12 := by omega
  have hb := ad_bd (Z := Z) hq
  obtain ⟨h', e1, e2, e3, e4⟩ := ((s5 q hq).tr hq8).step (M := Z + 97) (X := X) (lim := lm) (by omega) s1.1 s1.2.1 hq hB hs' s3.1 s3.2.2.1 t4
  have hlo : ∀ x, x < Z + 9 → h' x = h x := fun x hx => e2 x (by omega) (by omega)
  have hhi : ∀ x, Z + 97 ≤ x → h' x = h x := fun x hx => e2 x (by omega) (by omega)
  obtain ⟨A', a1, a2, a3⟩ := e4 h2
  refine ⟨h', A', e1, hlo, hhi, a1, s1, ⟨t1.ag (fun x _ _ => hlo x (by omega)), t2.ag (hlo _ (by omega)), ⟨r, ln, oc_ag t3 (hlo _ (by omega)) (hlo _ (by omega))⟩, e3⟩, s3.ag ⟨rfl, rfl, rfl, rfl, rfl⟩ a2.2.2.2.1 a2.2.2.2.2, s4.ag ⟨rfl, rfl, rfl, rfl⟩ (fun t ht htr x x1 x2 => ?_), fun q' hq' => ?_, ?_⟩
  · have := ad_dj (Z := Z) hq (show 4 + t < 12 by omega) (hR t ht htr)
    have := ad_bd (Z := Z) (q := 4 + t) (by omega)
    exact e2 x (by omega) (by omega)
  · by_cases z : q' = q
    · subst z; exact Or.inl a3
    · have := ad_dj (Z := Z) hq' hq z
      have := ad_bd (Z := Z) hq'
      exact (((s5 q' hq').mono (Nat.le_succ B)).ag (fun x x1 x2 => e2 x (by omega) (by omega))).sameQ s1.2.1 (a2.sameQ z) a2.2.2.2.1
  · obtain ⟨f, hf⟩ := s6
    exact ⟨f, by rw [hhi _ (by omega)]; exact hf⟩
/-- the reading's cell was written -/
theorem SS.kg (S : SS Z n wd B wb tb lm hs wr tr nd nu nb X A h) (k : KG Z tr' nd' nu' nb' h') (c : ∀ x, x ≠ Z + 6 → h' x = h x) (hX : X' 0 = X 0 ∧ X' 1 = X 1 ∧ X' 2 = X 2 ∧ X' 13 = X 13 ∧ X' 15 = X 15) (hR : RR Z n wd tr' nd' nu' nb' X' h') : SS Z n wd B wb tb lm hs wr tr' nd' nu' nb' X' A h' := by
  obtain ⟨s1, ⟨t1, t2, ⟨r, ln, t3⟩, ⟨pc, ps, pf, pz, t4⟩⟩, s3, s4, s5, s6⟩ := S
  refine ⟨s1, ⟨t1.ag (fun x _ _ => c x (by omega)), k, ⟨r, ln, oc_ag t3 (c _ (by omega)) (c _ (by omega))⟩, ⟨pc, ps, pf, pz, op_ag t4 (fun x _ _ => c x (by omega))⟩⟩, s3.ag hX rfl rfl, hR, fun q hq => ?_, ?_⟩
  · have := ad_bd (Z := Z) hq
    exact (s5 q hq).ag (fun x x1 x2 => c x (by omega))
  · obtain ⟨f, hf⟩ := s6
    exact ⟨f, by rw [c _ (by omega)]; exact hf⟩
theorem TR.root {P a q : Nat} (hT : TR n P B a q h A) (hN : PN n wd) : RN n wd a h 0 0 0 := by
  obtain ⟨n0, n1, w0, w1, w2⟩ := hN
  rcases hT with ⟨m, c, g, o, hv, es, cn, sg, pa, fs, sn, lf, t, h1, h2, h3, h4, h5, h6⟩ | ⟨u, d, hv, es, cn, sg, pa, fs, sn, lf, h1, h2, h3, h4, h5, h6⟩
  · have hm := h1.m_le
    refine ⟨P, _, _, es, hv, cn, sg, pa, fs, sn, lf, h2, by omega, by omega, ?_⟩
    rw [(h3.1 0 (by omega)).2.1]
    by_cases z : m = 0
    · subst z
      right
      rw [show g 0 = 1 from h1.2.1.2.1]
      exact ⟨rfl, by omega, by omega⟩
    · left
      have := h1.1.1 0 (by omega)
      rw [(h1.2.1.1 0 (by omega)).mpr ⟨0, by omega, by omega⟩]
      exact ⟨rfl, rfl, rfl⟩
  · refine ⟨P, _, _, es, hv, cn, sg, pa, fs, sn, lf, h2, by omega, by omega, Or.inl ⟨?_, rfl, rfl⟩⟩
    rw [(h3.1 0 (by omega)).2, if_pos (by omega)]
/-- what a bit does to both sides; h2 lies below the model -/
def RD (Z n wd B wb tb : Nat) (lm : Int32) (hs wr : Nat → Int32) (t : Nat) (h : Hp) (c m : Option (Hp × Int32)) (h2 : Hp) : Prop := ∃ (h' : Hp) (r : Int32) (B' : Nat) (X' : Nat → Int32) (A' : Nat → Nat → Int32) (tr' nd' nu' nb' : Int32), c = some (h', r) ∧ m = some (om (Z + 97) X' A' h2, r) ∧ SS Z n wd B' wb tb lm hs wr tr' nd' nu' nb' X' A' h' ∧ (∀ x, Z + 97 ≤ x → h' x = h x) ∧ ((r = (-1) ∧ B' = B ∧ tr' = nI t) ∨ (r ≠ (-1) ∧ B' ≤ B + 1))
end RD
