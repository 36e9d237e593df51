/-! BOTH SIDES' TREE: the class's seven cells at a and the model's rows at q stand for the same tree -/
section OVS
variable {n P a : Nat} {fm sz es hv : Int32} {cn sg pa fs sn lf : Nat → Int32} {h h' : Hp}
theorem op_ag {M : Nat} {pc ps pf : Nat → Int32} {pz : Int32} (e : op P M pc ps pf pz h = h) (hh : ∀ x, P ≤ x → x ≤ P + 3 → h' x = h x) : op P M pc ps pf pz h' = h' := by
  have c : ∀ x, P ≤ x → x ≤ P + 3 → h' x = op P M pc ps pf pz h x := fun x h1 h2 => by rw [hh x h1 h2, e]
  exact op_same (by rw [c P (by omega) (by omega), op_0]) (by rw [c (P + 1) (by omega) (by omega), op_1]) (by rw [c (P + 2) (by omega) (by omega), op_2]) (by rw [c (P + 3) (by omega) (by omega), op_3])
theorem op_idem {M : Nat} {pc ps pf : Nat → Int32} {pz : Int32} : op P M pc ps pf pz (op P M pc ps pf pz h) = op P M pc ps pf pz h := op_same op_0 op_1 op_2 op_3
end OVS
def TRc (n P B a q : Nat) (h : Hp) (A : Nat → Nat → Int32) (m : Nat) (c g o : Nat → Nat) (hv : Int32) : Prop := ∃ (es : Int32) (cn sg pa fs sn lf : Nat → Int32) (t : Nat → Nat), CI n B m c g o ∧ ov n P a 0 (nI (2 * m + 1)) es hv cn sg pa fs sn lf h = h ∧ CT n m c g o es cn sg pa fs sn lf ∧ MT A q m c g o t ∧ A 1 q = 0 ∧ A 3 q = hv
def TRs (n P a q : Nat) (h : Hp) (A : Nat → Nat → Int32) (u d : Nat → Nat) (hv : Int32) : Prop := ∃ (es : Int32) (cn sg pa fs sn lf : Nat → Int32), SI n u d ∧ ov n P a 1 (nI (2 * n - 1)) es hv cn sg pa fs sn lf h = h ∧ CS n u d cn sg pa fs sn lf ∧ MS A q n u d ∧ A 1 q = 1 ∧ A 3 q = hv
def TR (n P B a q : Nat) (h : Hp) (A : Nat → Nat → Int32) : Prop := (∃ m c g o hv, TRc n P B a q h A m c g o hv) ∨ ∃ u d hv, TRs n P a q h A u d hv
theorem TR.ag {n P B a q : Nat} {h h' : Hp} {A : Nat → Nat → Int32} (hT : TR n P B a q h A) (hh : ∀ x, a ≤ x → x ≤ a + 6 → h' x = h x) : TR n P B a q h' A := by
  rcases hT with ⟨m, c, g, o, hv, es, cn, sg, pa, fs, sn, lf, t, h1, h2, h3⟩ | ⟨u, d, hv, es, cn, sg, pa, fs, sn, lf, h1, h2, h3⟩
  · exact Or.inl ⟨m, c, g, o, hv, es, cn, sg, pa, fs, sn, lf, t, h1, ov_ag h2 hh, h3⟩
  · exact Or.inr ⟨u, d, hv, es, cn, sg, pa, fs, sn, lf, h1, ov_ag h2 hh, h3⟩
/-- the rows of the model that the tree q lies in -/
def sameQ (q : Nat) (A A' : Nat → Nat → Int32) : Prop := A' 1 q = A 1 q ∧ A' 2 q = A 2 q ∧ A' 3 q = A 3 q ∧ (∀ j, 129 * q ≤ j → j < 129 * q + 129 → A' 5 j = A 5 j ∧ A' 6 j = A 6 j ∧ A' 7 j = A 7 j ∧ A' 9 j = A 9 j ∧ A' 10 j = A 10 j) ∧ ∀ j, 64 * q ≤ j → j < 64 * q + 64 → A' 8 j = A 8 j
theorem TR.sameQ {n P B a q : Nat} {h : Hp} {A A' : Nat → Nat → Int32} (hT : TR n P B a q h A) (hn : n ≤ 64) (hs : sameQ q A A') : TR n P B a q h A' := by
  obtain ⟨s1, s2, s3, s4, s5⟩ := hs
  rcases hT with ⟨m, c, g, o, hv, es, cn, sg, pa, fs, sn, lf, t, h1, h2, h3, h4, h5, h6⟩ | ⟨u, d, hv, es, cn, sg, pa, fs, sn, lf, h1, h2, h3, h4, h5, h6⟩
  · have hm := h1.m_le
    refine Or.inl ⟨m, c, g, o, hv, es, cn, sg, pa, fs, sn, lf, t, h1, h2, h3, ?_, by rw [s1]; exact h5, by rw [s3]; exact h6⟩
    obtain ⟨m1, m2, m3, m4, m5⟩ := h4
    refine ⟨by rw [s2]; exact m1, fun p hp => ?_, m3, m4, fun k hk => ?_⟩
    · have := m2 p hp
      rw [(s4 (129 * q + p) (by omega) (by omega)).1, (s4 (129 * q + t p) (by omega) (by omega)).2.1, (s4 (129 * q + t p) (by omega) (by omega)).2.2.1]
      exact this
    · rw [s5 _ (by omega) (by omega)]; exact m5 k hk
  · refine Or.inr ⟨u, d, hv, es, cn, sg, pa, fs, sn, lf, h1, h2, h3, ?_, by rw [s1]; exact h5, by rw [s3]; exact h6⟩
    obtain ⟨m1, m2, m3, m4⟩ := h4
    refine ⟨by rw [s2]; exact m1, by rw [(s4 (129 * q) (by omega) (by omega)).2.2.2.1]; exact m2, by rw [(s4 (129 * q) (by omega) (by omega)).2.2.2.2]; exact m3, fun k h0 hk => ?_⟩
    rw [(s4 (129 * q + k) (by omega) (by omega)).2.2.2.1, (s4 (129 * q + k) (by omega) (by omega)).2.2.2.2]
    exact m4 k h0 hk
theorem fr.sameQ {q q' : Nat} {A A' : Nat → Nat → Int32} (h : fr q' A A') (hne : q ≠ q') : sameQ q A A' := by
  obtain ⟨f1, f2, f3, f4, f5⟩ := h
  have := f1 q hne
  exact ⟨this.1, this.2.1, this.2.2, fun j h1 h2 => f2 j (by omega), fun j h1 h2 => f3 j (by omega)⟩
theorem sameQ_15 {q : Nat} {A A' : Nat → Nat → Int32} (h : ∀ i, i ≠ 15 → A' i = A i) : sameQ q A A' := by
  refine ⟨by rw [h 1 (by decide)], by rw [h 2 (by decide)], by rw [h 3 (by decide)], fun j _ _ => ?_, fun j _ _ => by rw [h 8 (by decide)]⟩
  rw [h 5 (by decide), h 6 (by decide), h 7 (by decide), h 9 (by decide), h 10 (by decide)]
  exact ⟨rfl, rfl, rfl, rfl, rfl⟩
theorem CI.mono {n B B' m : Nat} {c g o : Nat → Nat} (h : CI n B m c g o) (hB : B ≤ B') : CI n B' m c g o := ⟨h.1, h.2.1, h.2.2.1, Nat.le_trans h.2.2.2 hB⟩
theorem TR.mono {n P B B' a q : Nat} {h : Hp} {A : Nat → Nat → Int32} (hT : TR n P B a q h A) (hB : B ≤ B') : TR n P B' a q h A := by
  rcases hT with ⟨m, c, g, o, hv, es, cn, sg, pa, fs, sn, lf, t, h1, h2⟩ | x
  · exact Or.inl ⟨m, c, g, o, hv, es, cn, sg, pa, fs, sn, lf, t, h1.mono hB, h2⟩
  · exact Or.inr x
section TRS
variable {n P B a q M : Nat} {h : Hp} {A : Nat → Nat → Int32} {X : Nat → Int32}
/-- a step of both trees by one sign -/
theorem TR.step {s : Nat} {lim pz : Int32} {pc ps pf : Nat → Int32} (hT : TR n P B a q h A) (hP : P + 3 < a) (hn0 : 2 ≤ n) (hn : n ≤ 64) (hq : q < 12) (hB : B < 2 ^ 27) (hs : s < n) (hX0 : X 0 = nI n) (hX2 : X 2 = lim) (hop : op P (n + 1) pc ps pf pz h = h) :
    ∃ h' : Hp, FT_stepBy h a (nI s) lim = some h' ∧ (∀ x, (x < P ∨ P + 3 < x) → (x < a ∨ a + 6 < x) → h' x = h x) ∧ (∃ (pc' ps' pf' : Nat → Int32) (pz' : Int32), op P (n + 1) pc' ps' pf' pz' h' = h') ∧ ∀ h2, ∃ A' : Nat → Nat → Int32, FM_steps (om M X A h2) M (nI q) (nI s) = some (om M X A' h2) ∧ fr q A A' ∧ TR n P (B + 1) a q h' A' := by
  subst hX2
  rcases hT with ⟨m, c, g, o, hv, es, cn, sg, pa, fs, sn, lf, t, h1, h2, h3, h4, h5, h6⟩ | ⟨u, d, hv, es, cn, sg, pa, fs, sn, lf, h1, h2, h3, h4, h5, h6⟩
  · have hh : h = ov n P a 0 (nI (2 * m + 1)) es hv cn sg pa fs sn lf (op P (n + 1) pc ps pf pz h) := by rw [hop, h2]
    have fin : ∀ (m' : Nat) (T : CGO) (hv' es' : Int32) (cn' sg' pa' fs' sn' lf' pc' ps' pf' : Nat → Int32) (pz' : Int32), FT_stepBy h a (nI s) (X 2) = some (ov n P a 0 (nI (2 * m' + 1)) es' hv' cn' sg' pa' fs' sn' lf' (op P (n + 1) pc' ps' pf' pz' h)) → CI n (B + 1) m' T.1 T.2.1 T.2.2 → CT n m' T.1 T.2.1 T.2.2 es' cn' sg' pa' fs' sn' lf' → (∀ h2, ∃ (A' : Nat → Nat → Int32) (t' : Nat → Nat), FM_counts (om M X A h2) M (nI q) (nI s) = some (om M X A' h2) ∧ MT A' q m' T.1 T.2.1 T.2.2 t' ∧ fr q A A' ∧ A' 1 q = A 1 q ∧ A' 3 q = hv') →
        ∃ h' : Hp, FT_stepBy h a (nI s) (X 2) = some h' ∧ (∀ x, (x < P ∨ P + 3 < x) → (x < a ∨ a + 6 < x) → h' x = h x) ∧ (∃ (pc' ps' pf' : Nat → Int32) (pz' : Int32), op P (n + 1) pc' ps' pf' pz' h' = h') ∧ ∀ h2, ∃ A' : Nat → Nat → Int32, FM_steps (om M X A h2) M (nI q) (nI s) = some (om M X A' h2) ∧ fr q A A' ∧ TR n P (B + 1) a q h' A' := by
      intro m' T hv' es' cn' sg' pa' fs' sn' lf' pc' ps' pf' pz' e1 e2 e3 e4
      refine ⟨_, e1, fun x x1 x2 => by rw [ov_out x2, op_out x1], ⟨pc', ps', pf', pz', by rw [ov_op hP, op_idem]⟩, fun h2 => ?_⟩
      obtain ⟨A', t', e5, e6, e7, e8, e9⟩ := e4 h2
      refine ⟨A', ?_, e7, Or.inl ⟨m', T.1, T.2.1, T.2.2, hv', es', cn', sg', pa', fs', sn', lf', t', e2, ov_idem, e3, e6, by rw [e8]; exact h5, e9⟩⟩
      unfold FM_steps
      rw [mr_fo, ml_fo hq, h5, jn_eq]
      try dsimp only
      rw [if_pos rfl, gd_t o_om, e5, Option.bind_some]
    by_cases hk : HasS m g s
    · obtain ⟨p, hp, hg⟩ := hk
      obtain ⟨es', cn', sg', pa', fs', sn', lf', pc', ps', pf', pz', r1, r2⟩ := e_stepBy_known (P := P) (a := a) (hv := hv) (pz := pz) (pc := pc) (ps := ps) (pf := pf) (h := h) (lim := X 2) hP hn h1 hB h3 hp hg
      rw [← hh] at r1
      refine fin m _ _ es' cn' sg' pa' fs' sn' lf' pc' ps' pf' pz' r1 ((h1.step (f := 2 * m + 1) hp hg hp).hvd (X 2)) r2 (fun h2 => ?_)
      have := m_counts_known (M := M) (X := X) (h := h2) hq hn h1 hB h4 hp hg
      rw [h6] at this
      exact this
    · obtain ⟨es', cn', sg', pa', fs', sn', lf', pc', ps', pf', pz', r1, r2⟩ := e_stepBy_new (P := P) (a := a) (hv := hv) (pz := pz) (pc := pc) (ps := ps) (pf := pf) (h := h) (lim := X 2) hP hn h1 hB h3 hs hk
      rw [← hh] at r1
      refine fin (m + 1) _ _ es' cn' sg' pa' fs' sn' lf' pc' ps' pf' pz' r1 ((h1.new hs hk).hvd (X 2)) r2 (fun h2 => ?_)
      have := m_counts_new (M := M) (X := X) (h := h2) hq hn h1 hB h4 hs hk
      rw [h6] at this
      exact this
  · obtain ⟨dp, hdp⟩ := h1.2.2.2
    obtain ⟨cn', sg', pa', fs', sn', lf', r1, r2⟩ := e_stepBy_splayed (P := P) (a := a) (es := es) (hv := hv) (h := h) (lim := X 2) hn h1 hdp h3 hs
    rw [h2] at r1
    have S' := spS_ok (2 * n) u d dp (n - 1 + s) h1 hdp (by omega)
    refine ⟨_, r1, fun x x1 x2 => ov_out x2, ⟨pc, ps, pf, pz, op_ag hop (fun x x1 x2 => ov_out (by omega))⟩, fun h2' => ?_⟩
    obtain ⟨A', s1, s2, s3, s4⟩ := m_splays (M := M) (X := X) (h := h2') hq hn0 hn hX0 h1 hdp h4 hs
    refine ⟨A', ?_, s3, Or.inr ⟨_, _, hv, es, cn', sg', pa', fs', sn', lf', S', ov_idem, r2, s2, by rw [s4.1]; exact h5, by rw [s4.2]; exact h6⟩⟩
    unfold FM_steps
    rw [mr_fo, ml_fo hq, h5, jn_eq]
    try dsimp only
    rw [if_neg (by decide), gd_t o_om, s1, Option.bind_some]
end TRS
