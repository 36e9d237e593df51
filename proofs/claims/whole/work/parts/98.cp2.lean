/-- the tree q1 (cells b) is copied over the tree q2 (cells a), on both sides -/
theorem TR.copy {n P B a b q1 q2 : Nat} {h : Hp} {A : Nat → Nat → Int32} (hT : TR n P B b q1 h A) (hT2 : ∃ (fm : Int32) (N : Nat) (es hv : Int32) (cn sg pa fs sn lf : Nat → Int32), ov n P a fm (nI N) es hv cn sg pa fs sn lf h = h) (hn0 : 2 ≤ n) (hn : n ≤ 64) (hq1 : q1 < 12) (hq2 : q2 < 12) (hne : q1 ≠ q2) (hd : a + 6 < b ∨ b + 6 < a) : ∃ h', FT_becomeLike h a b = some h' ∧ (∀ x, x < a ∨ a + 6 < x → h' x = h x) ∧ ∀ M X, ∃ A' : Nat → Nat → Int32, (∀ h2, FM_copy (om M X A h2) M (nI q1) (nI q2) = some (om M X A' h2)) ∧ fr q2 A A' ∧ A' 1 q2 = A 1 q1 ∧ TR n P B a q2 h' A' := by
  obtain ⟨fm', N', es', hv', cn', sg', pa', fs', sn', lf', g1⟩ := hT2
  rcases hT with ⟨m, c, g, o, hv, es, cn, sg, pa, fs, sn, lf, t, h1, h2, h3, h4, h5, h6⟩ | ⟨u, d, hv, es, cn, sg, pa, fs, sn, lf, h1, h2, h3, h4, h5, h6⟩
  · have hm := h1.m_le
    refine ⟨_, e_becomeLike hn (by omega) h2 g1 hd, fun x hx => ov_out hx, fun M X => ?_⟩
    obtain ⟨A', a1, a2, a3, a4, a5, a6, a7⟩ := m_copy (M := M) (X := X) (A := A) hq1 hq2 hne
    refine ⟨A', a1, a2, a3, Or.inl ⟨m, c, g, o, hv, es, _, _, _, _, _, _, t, h1, ov_idem, h3.cong h1.2.1 (fun j hj => ⟨cpy0 hj, cpy0 hj, cpy0 hj, cpy0 hj, cpy0 hj⟩) (fun s hs => cpy0 hs), ?_, by rw [a3]; exact h5, by rw [a5]; exact h6⟩⟩
    obtain ⟨m1, m2, m3, m4, m5⟩ := h4
    refine ⟨by rw [a4]; exact m1, fun p hp => ?_, m3, m4, fun k hk => by rw [a7 k (by omega)]; exact m5 k hk⟩
    have hp2 := m2 p hp
    rw [(a6 p (by omega)).1, (a6 (t p) (by omega)).2.1, (a6 (t p) (by omega)).2.2.1]
    exact hp2
  · refine ⟨_, e_becomeLike hn (by omega) h2 g1 hd, fun x hx => ov_out hx, fun M X => ?_⟩
    obtain ⟨A', a1, a2, a3, a4, a5, a6, a7⟩ := m_copy (M := M) (X := X) (A := A) hq1 hq2 hne
    refine ⟨A', a1, a2, a3, Or.inr ⟨u, d, hv, es, _, _, _, _, _, _, h1, ov_idem, h3.cong (by omega) h1 (fun j hj => ⟨cpy0 hj, cpy0 hj, cpy0 hj, cpy0 hj, cpy0 hj⟩) (fun s hs => cpy0 hs), ?_, by rw [a3]; exact h5, by rw [a5]; exact h6⟩⟩
    obtain ⟨m1, m2, m3, m4⟩ := h4
    have e0 := a6 0 (by omega)
    rw [Nat.add_zero, Nat.add_zero] at e0
    refine ⟨by rw [a4]; exact m1, by rw [e0.2.2.2.1]; exact m2, by rw [e0.2.2.2.2, m3]; rfl, fun k k0 hk => ?_⟩
    have := m4 k k0 hk
    rw [(a6 k (by omega)).2.2.2.1, (a6 k (by omega)).2.2.2.2, this.1, this.2, nar_d (h1.1 k k0 hk).2]
    exact ⟨rfl, rfl⟩
section SAV
variable {Z n wd B wb tb : Nat} {lm : Int32} {hs wr : Nat → Int32} {tr nd nu nb : Int32} {X : Nat → Int32} {A : Nat → Nat → Int32} {h : Hp}
theorem SS.copy {q1 q2 : Nat} (S : SS Z n wd B wb tb lm hs wr tr nd nu nb X A h) (hT1 : TR n (Z + 9) B (ad Z q1) q1 h A) (hq1 : q1 < 12) (hq2 : q2 < 12) (hne : q1 ≠ q2) (hR : ∀ t, t < 4 → tr = nI t → q2 ≠ 4 + t) : ∃ h' A', FT_becomeLike h (ad Z q2) (ad Z q1) = some h' ∧ (∀ x, x < Z + 13 → h' x = h x) ∧ (∀ x, Z + 97 ≤ x → h' x = h x) ∧ (∀ h2, FM_copy (om (Z + 97) X A h2) (Z + 97) (nI q1) (nI q2) = some (om (Z + 97) X A' h2)) ∧ A' 1 q2 = A 1 q1 ∧ fr q2 A A' ∧ SS Z n wd B wb tb lm hs wr tr nd nu nb X A' h' := by
  obtain ⟨s1, ⟨t1, t2, ⟨r, ln, t3⟩, ⟨pc, ps, pf, pz, t4⟩⟩, s3, s4, s5, s6⟩ := S
  have hb := ad_bd (Z := Z) hq2
  obtain ⟨h', e1, e2, e4⟩ := hT1.copy (s5 q2 hq2).ov s1.1 s1.2.1 hq1 hq2 hne (by have := ad_dj (Z := Z) hq2 hq1 (Ne.symm hne); omega)
  have hlo : ∀ x, x < Z + 13 → h' x = h x := fun x hx => e2 x (by omega)
  have hhi : ∀ x, Z + 97 ≤ x → h' x = h x := fun x hx => e2 x (by omega)
  obtain ⟨A', a1, a2, a4, a3⟩ := e4 (Z + 97) X
  refine ⟨h', A', e1, hlo, hhi, a1, a4, a2, s1, ⟨t1.ag (fun x _ _ => hlo x (by omega)), t2.ag (hlo _ (by omega)), ⟨r, ln, oc_ag t3 (hlo _ (by omega)) (hlo _ (by omega))⟩, ⟨pc, ps, pf, pz, op_ag t4 (fun x _ _ => hlo x (by omega))⟩⟩, s3.ag ⟨rfl, rfl, rfl, rfl, rfl⟩ a2.2.2.2.1 a2.2.2.2.2, s4.ag ⟨rfl, rfl, rfl, rfl⟩ (fun t ht htr x x1 x2 => ?_), fun q' hq' => ?_, ?_⟩
  · have := ad_dj (Z := Z) hq2 (show 4 + t < 12 by omega) (hR t ht htr)
    exact e2 x (by omega)
  · by_cases z : q' = q2
    · subst z; exact Or.inl a3
    · have := ad_dj (Z := Z) hq' hq2 z
      exact ((s5 q' hq').ag (fun x x1 x2 => e2 x (by omega))).sameQ s1.2.1 (a2.sameQ z) a2.2.2.2.1
  · obtain ⟨f, hf⟩ := s6
    exact ⟨f, by rw [hhi _ (by omega)]; exact hf⟩
/-- leaving the code of a tree, on both sides -/
theorem SS.leave {t : Nat} (S : SS Z n wd B wb tb lm hs wr tr nd nu nb X A h) (ht : t < 4) : ∃ h' X' tr' nd' nu' nb', FR_leaveCodeOf h (Z + 6) (nI t) = some h' ∧ (∀ x, x ≠ Z + 6 → h' x = h x) ∧ X' = upd X 16 (if X 16 = nI (4 + t) then (-1) else X 16) ∧ SS Z n wd B wb tb lm hs wr tr' nd' nu' nb' X' A h' ∧ tr' ≠ nI t := by
  obtain ⟨h', e1, e2, e3⟩ := e_Rleave S.2.1.2.1 (t := nI t)
  obtain ⟨g1, g2⟩ := S.2.2.2.1.gate ht
  by_cases z : tr = nI t
  · rw [if_pos z] at e2
    refine ⟨h', _, (-1), 0, 0, 0, e1, e3, rfl, S.kg e2 e3 ⟨rfl, rfl, rfl, rfl, rfl⟩ (Or.inl ⟨rfl, rfl, rfl, rfl, ?_⟩), fun e => m1_nI (by omega) e.symm⟩
    rw [if_pos (g2.mp z)]; rfl
  · rw [if_neg z] at e2
    subst e2
    have hX : upd X 16 (if X 16 = nI (4 + t) then (-1) else X 16) = X := by
      rw [if_neg (fun e => z (g2.mpr e))]
      funext k
      by_cases y : k = 16
      · subst y; exact updS
      · exact if_neg y
    exact ⟨h', _, tr, nd, nu, nb, e1, e3, rfl, by rw [hX]; exact S, z⟩
/-- trees were changed, those of the reader t among them; then the code of t is left -/
theorem SS.relay {B' t : Nat} {h1 : Hp} {A1 : Nat → Nat → Int32} (S : SS Z n wd B wb tb lm hs wr tr nd nu nb X A h) (ht : t < 4) (hlo : ∀ x, x < Z + 13 → h1 x = h x) (hhi : ∀ x, Z + 97 ≤ x → h1 x = h x) (hT : ∀ q, q < 12 → TS Z n B' q h1 A1) (h4 : A1 4 = A 4) (h11 : A1 11 = A 11) (hr : ∀ t', t' < 4 → t' ≠ t → ∀ x, ad Z (4 + t') ≤ x → x ≤ ad Z (4 + t') + 6 → h1 x = h x) :
    ∃ h2 tr' nd' nu' nb', FR_leaveCodeOf h1 (Z + 6) (nI t) = some h2 ∧ (∀ x, x ≠ Z + 6 → h2 x = h1 x) ∧ SS Z n wd B' wb tb lm hs wr tr' nd' nu' nb' (upd X 16 (if X 16 = nI (4 + t) then (-1) else X 16)) A1 h2 := by
  obtain ⟨s1, ⟨t1, t2, ⟨r, ln, t3⟩, ⟨pc, ps, pf, pz, t4⟩⟩, s3, s4, s5, s6⟩ := S
  have hG1 : KG Z tr nd nu nb h1 := t2.ag (hlo _ (by omega))
  obtain ⟨h2, e1, e2, e3⟩ := e_Rleave hG1 (t := nI t)
  obtain ⟨g1, g2⟩ := s4.gate ht
  have hlo2 : ∀ x, x ≠ Z + 6 → x < Z + 13 → h2 x = h x := fun x x1 x2 => by rw [e3 x x1, hlo x x2]
  have hKA : KA Z n wd wb tb lm hs wr h2 := t1.ag (fun x _ _ => hlo2 x (by omega) (by omega))
  have hoc : oc (Z + 7) (2 * n + 1 + wd) r ln h2 = h2 := oc_ag t3 (hlo2 _ (by omega) (by omega)) (hlo2 _ (by omega) (by omega))
  have hop : op (Z + 9) (n + 1) pc ps pf pz h2 = h2 := op_ag t4 (fun x _ _ => hlo2 x (by omega) (by omega))
  have hSM : SM n wd wb tb lm hs wr (upd X 16 (if X 16 = nI (4 + t) then (-1) else X 16)) A1 := s3.ag ⟨rfl, rfl, rfl, rfl, rfl⟩ h4 h11
  have hTT : ∀ q, q < 12 → TS Z n B' q h2 A1 := fun q hq => by
    have := ad_bd (Z := Z) hq
    exact (hT q hq).ag (fun x _ _ => e3 x (by omega))
  have hout : out Z h2 := by
    obtain ⟨f, hf⟩ := s6
    exact ⟨f, by rw [e3 _ (by omega), hhi _ (by omega)]; exact hf⟩
  by_cases z : tr = nI t
  · rw [if_pos z] at e2
    refine ⟨h2, (-1), 0, 0, 0, e1, e3, s1, ⟨hKA, e2, ⟨r, ln, hoc⟩, ⟨pc, ps, pf, pz, hop⟩⟩, hSM, Or.inl ⟨rfl, rfl, rfl, rfl, ?_⟩, hTT, hout⟩
    rw [if_pos (g2.mp z)]; rfl
  · rw [if_neg z] at e2
    have hX : upd X 16 (if X 16 = nI (4 + t) then (-1) else X 16) = X := by
      rw [if_neg (fun e => z (g2.mpr e))]
      funext k
      by_cases y : k = 16
      · subst y; exact updS
      · exact if_neg y
    rw [hX] at hSM ⊢
    refine ⟨h2, tr, nd, nu, nb, e1, e3, s1, ⟨hKA, by rw [e2]; exact hG1, ⟨r, ln, hoc⟩, ⟨pc, ps, pf, pz, hop⟩⟩, hSM, s4.ag ⟨rfl, rfl, rfl, rfl⟩ (fun t' ht' e x x1 x2 => ?_), hTT, hout⟩
    have := ad_bd (Z := Z) (show 4 + t' < 12 by omega)
    rw [e3 x (by omega)]
    exact hr t' ht' (fun y => z (by rw [e, y])) x x1 x2
end SAV
section SAVE
variable {Z n wd B : Nat} {h : Hp}
theorem p_save (S : ST Z n wd B h) {p1 p2 p3 : Int32} : OPC Z n wd B (FA_save h Z p1 p2 p3) (fun h1 => FM_save h1 (Z + 97) p1 p2 p3) := by
  obtain ⟨wb, tb, lm, hs, wr, tr, nd, nu, nb, X, A, S, hom⟩ := S
  have hK := S.2.1.1
  have bad : (FA_save h Z p1 p2 p3 = some (h, (-2))) → (FM_save (om (Z + 97) X A h) (Z + 97) p1 p2 p3 = some (om (Z + 97) (upd X 20 0) A h, (-2))) → OPC Z n wd B (FA_save h Z p1 p2 p3) (fun h1 => FM_save h1 (Z + 97) p1 p2 p3) := fun e1 e2 => OPC_of (X' := upd X 20 0) (A' := A) (r := (-2)) hom e1 (S.q u20 (fun _ _ => rfl)) e2
  rcases tr_cases p1 with ⟨s, hs', rfl, j2, j3⟩ | ⟨j2, j3⟩
  · rcases et_cases p2 p3 with ⟨e, t, he, ht, rfl, rfl, k1, k2, k3⟩ | ⟨k1, k3⟩
    · obtain ⟨s1, ⟨t1, t2, ⟨r, ln, t3⟩, ⟨pc, ps, pf, pz, t4⟩⟩, s3, s4, s5, s6⟩ := S
      obtain ⟨hb1, b, hb, hb2⟩ := s3.2.2.2.2.2.2.2.2 s hs'
      have hbd := ad_bd (Z := Z) (show 8 + s < 12 by omega)
      have hso : isO h (ad Z (8 + s)) 3 = true := by
        obtain ⟨_, _, _, _, _, _, _, _, _, _, y⟩ := (s5 (8 + s) (by omega)).ov
        exact isO_at (ov_hd y)
      have sq : ∀ q, sameQ q A (u2 A 4 s (vp_nar .boolean 1)) := fun q => sameQ_s (fun i _ _ i4 => u2_n i4)
      obtain ⟨h1, e1, e2, e4⟩ := (((s5 (4 * e + t) (by omega)).tr (by omega)).sameQ s1.2.1 (sq _)).copy (q2 := 8 + s) (s5 (8 + s) (by omega)).ov s1.1 s1.2.1 (by omega) (by omega) (by omega) (by have := ad_dj (Z := Z) (show 8 + s < 12 by omega) (show 4 * e + t < 12 by omega) (by omega); omega)
      have hlo : ∀ x, x < Z + 13 → h1 x = h x := fun x hx => e2 x (by omega)
      have hhi : ∀ x, Z + 97 ≤ x → h1 x = h x := fun x hx => e2 x (by omega)
      obtain ⟨A', a1, a2, a4, a3⟩ := e4 (Z + 97) (upd X 20 0)
      have hK1 : KA Z n wd wb tb lm hs wr h1 := t1.ag (fun x _ _ => hlo x (by omega))
      obtain ⟨h2, f1, f2, f3⟩ := hK1.SH (t := s) (v := vp_nar .boolean 1) hs'
      have hA4 : A' 4 = upd (A 4) s (vp_nar .boolean 1) := by rw [a2.2.2.2.1, u2_e]
      have hA11 : A' 11 = A 11 := by rw [a2.2.2.2.2, u2_n (by decide)]
      have S2 : SS Z n wd (B + 1) wb tb lm (upd hs s (vp_nar .boolean 1)) wr tr nd nu nb (upd X 20 0) A' h2 := by
        refine ⟨s1, ⟨f2, t2.ag (by rw [f3 _ (by omega), hlo _ (by omega)]), ⟨r, ln, oc_ag t3 (by rw [f3 _ (by omega), hlo _ (by omega)]) (by rw [f3 _ (by omega), hlo _ (by omega)])⟩, ⟨pc, ps, pf, pz, op_ag t4 (fun x _ _ => by rw [f3 _ (by omega), hlo _ (by omega)])⟩⟩, ?_, s4.ag ⟨rfl, rfl, rfl, rfl⟩ (fun t' ht' _ x x1 x2 => ?_), fun q hq => ?_, ?_⟩
        · obtain ⟨m1, m2, m3, m4, m5, m6, m7, m8, m9⟩ := s3
          refine ⟨m1, m2, m3, m4, m5, m6, m7, fun j hj => by rw [hA11]; exact m8 j hj, fun s' hs'' => ?_⟩
          rw [hA4]
          by_cases y : s' = s
          · subst y; rw [updS, updS]; exact ⟨rfl, 1, by omega, rfl⟩
          · rw [show upd hs s (vp_nar .boolean 1) s' = hs s' from if_neg y, show upd (A 4) s (vp_nar .boolean 1) s' = A 4 s' from if_neg y]; exact m9 s' hs''
        · have := ad_dj (Z := Z) (show 8 + s < 12 by omega) (show 4 + t' < 12 by omega) (by omega)
          have := ad_bd (Z := Z) (show 4 + t' < 12 by omega)
          rw [f3 x (by omega), e2 x (by omega)]
        · have hbq := ad_bd (Z := Z) hq
          by_cases z : q = 8 + s
          · subst z; exact Or.inl ((a3.mono (Nat.le_succ B)).ag (fun x _ _ => f3 x (by omega)))
          · have := ad_dj (Z := Z) hq (show 8 + s < 12 by omega) z
            rcases s5 q hq with y | ⟨y1, y2, fm, N, es, hv, cn, sg, pa, fs, sn, lf, y3⟩
            · exact Or.inl ((((y.mono (Nat.le_succ B)).sameQ s1.2.1 (sq q)).ag (fun x x1 x2 => by rw [f3 x (by omega), e2 x (by omega)])).sameQ s1.2.1 (a2.sameQ z))
            · exact Or.inr ⟨y1, by rw [hA4, show upd (A 4) s (vp_nar .boolean 1) (q - 8) = A 4 (q - 8) from if_neg (by omega)]; exact y2, fm, N, es, hv, cn, sg, pa, fs, sn, lf, ov_ag y3 (fun x x1 x2 => by rw [f3 x (by omega), e2 x (by omega)])⟩
        · obtain ⟨f, hf⟩ := s6
          exact ⟨f, by rw [f3 _ (by omega), hhi _ (by omega)]; exact hf⟩
      refine OPC_of (r := nI b) (om_ag hom (fun x x1 _ => by rw [f3 x (by omega), hhi x x1])) ?_ S2 ?_
      · unfold FA_save
        rw [e_isSlot, j2, Option.bind_some, jn_eq]
        try dsimp only
        rw [if_neg (by decide), k1, Option.bind_some, if_neg (by decide), k2, Option.bind_some, if_neg (by decide), t1.r5, t1.lh hs', hb1, hb2, e_oneIf hb, Option.bind_some, t1.r4, t1.q3 hs', gd_t t1.o, e_treeOf t1 he ht, Option.bind_some, ad_et he ht, ad_s, gd_t hso, e1, Option.bind_some, hK1.r5, f1]
      · show FM_save _ _ _ _ _ = _
        unfold FM_save
        rw [mp_20, j3, Option.bind_some, jn_eq]
        try dsimp only
        rw [if_neg (by decide), k3, Option.bind_some, if_neg (by decide), mr_hs, ml_hs hs', hb2, mr_hs, ms_hs hs', gd_t o_om, qet, q8, a1, Option.bind_some, jn_eq]
        try dsimp only
        by_cases z : b = 0
        · subst z; rw [if_pos nI_0]; rfl
        · have : b = 1 := by omega
          subst this; rw [if_neg (by decide)]; rfl
    · refine bad ?_ ?_
      · unfold FA_save
        rw [e_isSlot, j2, Option.bind_some, jn_eq]
        try dsimp only
        rcases k1 with k1 | ⟨k1, k2⟩
        · rw [if_neg (by decide), k1, Option.bind_some, if_pos rfl]
        · rw [if_neg (by decide), k1, Option.bind_some, if_neg (by decide), k2, Option.bind_some, if_pos rfl]
      · unfold FM_save
        rw [mp_20, j3, Option.bind_some, jn_eq]
        try dsimp only
        rw [if_neg (by decide), k3, Option.bind_some, if_pos rfl]
  · refine bad ?_ ?_
    · unfold FA_save
      rw [e_isSlot, j2, Option.bind_some, jn_eq]
      try dsimp only
      rw [if_pos rfl]
    · unfold FM_save
      rw [mp_20, j3, Option.bind_some, jn_eq]
      try dsimp only
      rw [if_pos rfl]
/-- the reading's gate after a tree was changed -/
theorem leave_X {X : Nat → Int32} {v : Int32} {t : Nat} : upd (upd X 20 0) 16 (if upd X 20 0 16 = nI (4 + t) then (-1) else upd X 20 0 16) = upd (upd X 20 0) 16 (if X 16 = nI (4 + t) then (-1) else X 16) := rfl
theorem upd_self {X : Nat → Int32} {k : Nat} : upd X k (X k) = X := by
  funext j
  by_cases y : j = k
  · subst y; exact updS
  · exact if_neg y
theorem p_restore (S : ST Z n wd B h) {p1 p2 p3 : Int32} : OPC Z n wd B (FA_restore h Z p1 p2 p3) (fun h1 => FM_restore h1 (Z + 97) p1 p2 p3) := by
  obtain ⟨wb, tb, lm, hs, wr, tr, nd, nu, nb, X, A, S, hom⟩ := S
  have hK := S.2.1.1
  have bad : ∀ r, (FA_restore h Z p1 p2 p3 = some (h, r)) → (FM_restore (om (Z + 97) X A h) (Z + 97) p1 p2 p3 = some (om (Z + 97) (upd X 20 0) A h, r)) → OPC Z n wd B (FA_restore h Z p1 p2 p3) (fun h1 => FM_restore h1 (Z + 97) p1 p2 p3) := fun r e1 e2 => OPC_of (X' := upd X 20 0) (A' := A) (r := r) hom e1 (S.q u20 (fun _ _ => rfl)) e2
  rcases tr_cases p1 with ⟨s, hs', rfl, j2, j3⟩ | ⟨j2, j3⟩
  · rcases et_cases p2 p3 with ⟨e, t, he, ht, rfl, rfl, k1, k2, k3⟩ | ⟨k1, k3⟩
    · obtain ⟨hb1, b, hb, hb2⟩ := S.2.2.1.2.2.2.2.2.2.2.2 s hs'
      by_cases zb : b = 0
      · subst zb
        refine bad (-4) ?_ ?_
        · unfold FA_restore
          rw [e_isSlot, j2, Option.bind_some, jn_eq]
          try dsimp only
          rw [if_neg (by decide), k1, Option.bind_some, if_neg (by decide), k2, Option.bind_some, if_neg (by decide), hK.r5, hK.lh hs', hb1, hb2, if_pos nI_0]
        · unfold FM_restore
          rw [mp_20, j3, Option.bind_some, jn_eq]
          try dsimp only
          rw [if_neg (by decide), k3, Option.bind_some, if_neg (by decide), mr_hs, ml_hs hs', hb2, if_pos nI_0]
      · have hb1' : b = 1 := by omega
        subst hb1'
        have hsl := (S.2.2.2.2.1 (8 + s) (by omega)).sl hb2
        obtain ⟨fm, N, es, hv, cn, sg, pa, fs, sn, lf, r1, r2, r3, r4, r5⟩ := hsl.sc
        have hbd := ad_bd (Z := Z) (show 8 + s < 12 by omega)
        have hTt := (S.tre (q := 4 * e + t) (by omega)).o
        by_cases ze : e = 0
        · subst ze
          have S0 := S.q0 (X' := upd X 20 0) u20
          obtain ⟨h1, A1, c1, c2, c3, c4, c5, c6, c7⟩ := S0.copy (q1 := 8 + s) (q2 := 4 * 0 + t) hsl (by omega) (by omega) (by omega) (fun t' _ _ => by omega)
          have hsl1 := (c7.2.2.2.2.1 (8 + s) (by omega)).sl (by rw [c6.2.2.2.1]; exact hb2)
          obtain ⟨fm', N', es', hv', cn', sg', pa', fs', sn', lf', r1', r2', -⟩ := hsl1.sc
          have hK1 := c7.2.1.1
          have hfm : fm' = fm := by
            have := (c6.1 (8 + s) (by omega)).1
            rw [r2, r2'] at this; exact this
          refine OPC_of (X' := upd X 20 0) (A' := A1) (r := fm) (om_ag hom (fun x x1 _ => c3 x x1)) ?_ (c7.mono (Nat.le_succ B)) ?_
          · unfold FA_restore
            rw [e_isSlot, j2, Option.bind_some, jn_eq]
            try dsimp only
            rw [if_neg (by decide), k1, Option.bind_some, if_neg (by decide), k2, Option.bind_some, if_neg (by decide), hK.r5, hK.lh hs', hb1, hb2, if_neg (by decide), gd_t hK.o, e_treeOf hK he ht, Option.bind_some, ad_et he ht, hK.r4, hK.q3 hs', ad_s, gd_t hTt, c1, Option.bind_some, jn_eq]
            try dsimp only
            rw [if_neg (by decide), hK1.r4, hK1.q3 hs', ad_s, gI_at (ov_hd r1') rfl, hfm]
          · show FM_restore _ _ _ _ _ = _
            unfold FM_restore
            rw [mp_20, j3, Option.bind_some, jn_eq]
            try dsimp only
            rw [if_neg (by decide), k3, Option.bind_some, if_neg (by decide), mr_hs, ml_hs hs', hb2, if_neg (by decide), gd_t o_om, qet, q8, c4, Option.bind_some, jn_eq]
            try dsimp only
            rw [jn_eq]
            try dsimp only
            rw [if_neg (by decide), mi_16, mp_16, upd_self, mr_fo, ml_fo (by omega), r2', hfm]
        · have he1 : e = 1 := by omega
          subst he1
          have S0 := S.q0 (X' := upd X 20 0) u20
          have hbt := ad_bd (Z := Z) (show 4 * 1 + t < 12 by omega)
          obtain ⟨h1, c1, c2, c4'⟩ := hsl.copy (q2 := 4 * 1 + t) (S.2.2.2.2.1 (4 * 1 + t) (by omega)).ov S.1.1 S.1.2.1 (by omega) (by omega) (by omega) (by have := ad_dj (Z := Z) (show 8 + s < 12 by omega) (show 4 * 1 + t < 12 by omega) (by omega); omega)
          obtain ⟨A1, c4, c6, c5, c7⟩ := c4' (Z + 97) (upd X 20 0)
          have hTT : ∀ q, q < 12 → TS Z n (B + 1) q h1 A1 := fun q hq => by
            by_cases z : q = 4 * 1 + t
            · subst z; exact Or.inl (c7.mono (Nat.le_succ B))
            · have := ad_dj (Z := Z) hq (show 4 * 1 + t < 12 by omega) z
              exact (((S.2.2.2.2.1 q hq).mono (Nat.le_succ B)).ag (fun x x1 x2 => c2 x (by omega))).sameQ S.1.2.1 (c6.sameQ z) c6.2.2.2.1
          obtain ⟨h2, tr2, nd2, nu2, nb2, l1, l2, l4⟩ := S0.relay (B' := B + 1) ht (fun x hx => c2 x (by omega)) (fun x hx => c2 x (by omega)) hTT c6.2.2.2.1 c6.2.2.2.2 (fun t' ht' hne x x1 x2 => by
            have := ad_dj (Z := Z) (show 4 + t' < 12 by omega) (show 4 * 1 + t < 12 by omega) (by omega)
            exact c2 x (by omega))
          have hsl1 := (l4.2.2.2.2.1 (8 + s) (by omega)).sl (by rw [c6.2.2.2.1]; exact hb2)
          obtain ⟨fm', N', es', hv', cn', sg', pa', fs', sn', lf', r1', r2', -⟩ := hsl1.sc
          have hK1 : KA Z n wd wb tb lm hs wr h1 := hK.ag (fun x _ _ => c2 x (by omega))
          have hG1 : KG Z tr nd nu nb h1 := S.2.1.2.1.ag (c2 _ (by omega))
          have hK2 := l4.2.1.1
          have hfm : fm' = fm := by
            have := (c6.1 (8 + s) (by omega)).1
            rw [r2, r2'] at this; exact this
          refine OPC_of (r := fm) (om_ag hom (fun x x1 _ => by rw [l2 x (by omega), c2 x (by omega)])) ?_ l4 ?_
          · unfold FA_restore
            rw [e_isSlot, j2, Option.bind_some, jn_eq]
            try dsimp only
            rw [if_neg (by decide), k1, Option.bind_some, if_neg (by decide), k2, Option.bind_some, if_neg (by decide), hK.r5, hK.lh hs', hb1, hb2, if_neg (by decide), gd_t hK.o, e_treeOf hK he ht, Option.bind_some, ad_et he ht, hK.r4, hK.q3 hs', ad_s, gd_t hTt, c1, Option.bind_some, jn_eq]
            try dsimp only
            rw [if_pos (by rfl), hK1.r11, gd_t hG1.o, l1, Option.bind_some, hK2.r4, hK2.q3 hs', ad_s, gI_at (ov_hd r1') rfl, hfm]
          · show FM_restore _ _ _ _ _ = _
            unfold FM_restore
            rw [mp_20, j3, Option.bind_some, jn_eq]
            try dsimp only
            rw [if_neg (by decide), k3, Option.bind_some, if_neg (by decide), mr_hs, ml_hs hs', hb2, if_neg (by decide), gd_t o_om, qet, q8, c4, Option.bind_some, jn_eq]
            try dsimp only
            rw [jn_eq]
            try dsimp only
            rw [if_pos (by rfl), mi_16, q4]
            by_cases z : upd X 20 0 16 = nI (4 + t)
            · rw [if_pos z, if_pos z, mp_16, mr_fo, ml_fo (by omega), r2', hfm]
            · rw [if_neg z, if_neg z, mi_16, mp_16, mr_fo, ml_fo (by omega), r2', hfm]
    · refine bad (-2) ?_ ?_
      · unfold FA_restore
        rw [e_isSlot, j2, Option.bind_some, jn_eq]
        try dsimp only
        rcases k1 with k1 | ⟨k1, k2⟩
        · rw [if_neg (by decide), k1, Option.bind_some, if_pos rfl]
        · rw [if_neg (by decide), k1, Option.bind_some, if_neg (by decide), k2, Option.bind_some, if_pos rfl]
      · unfold FM_restore
        rw [mp_20, j3, Option.bind_some, jn_eq]
        try dsimp only
        rw [if_neg (by decide), k3, Option.bind_some, if_pos rfl]
  · refine bad (-2) ?_ ?_
    · unfold FA_restore
      rw [e_isSlot, j2, Option.bind_some, jn_eq]
      try dsimp only
      rw [if_pos rfl]
    · unfold FM_restore
      rw [mp_20, j3, Option.bind_some, jn_eq]
      try dsimp only
      rw [if_pos rfl]
end SAVE
