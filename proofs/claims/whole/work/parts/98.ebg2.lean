/-- a tree of one form begins anew, on both sides -/
theorem TR.begin {n P B a q f : Nat} {h : Hp} {A : Nat → Nat → Int32} (hT : TR n P B a q h A) (hn0 : 2 ≤ n) (hn : n ≤ 64) (hq : q < 12) (hf : f < 2) : ∃ h', FT_beginAs h a (nI f) = some h' ∧ (∀ x, x < a ∨ a + 6 < x → h' x = h x) ∧ ∀ M X, X 0 = nI n → ∃ A' : Nat → Nat → Int32, (∀ h2, FM_begin (om M X A h2) M (nI q) (nI f) = some (om M X A' h2)) ∧ fr q A A' ∧ TR n P B a q h' A' := by
  obtain ⟨fm', N', es', hv', cn', sg', pa', fs', sn', lf', g1, -⟩ := hT.sc
  by_cases z : f = 0
  · subst z
    obtain ⟨es1, cn1, sg1, pa1, fs1, sn1, lf1, r1, r2⟩ := e_beginCounted (n := n) (P := P) (a := a) (h := h) (fm := fm') (sz := nI N') (es := es') (hv := hv') (cn := cn') (sg := sg') (pa := pa') (fs := fs') (sn := sn') (lf := lf') hn
    rw [g1] at r1
    refine ⟨ov n P a 0 (nI 1) es1 0 cn1 sg1 pa1 fs1 sn1 lf1 h, ?_, fun x hx => ov_out hx, fun M X hX => ?_⟩
    · unfold FT_beginAs
      rw [jn_eq]
      try dsimp only
      rw [if_neg (by decide), gd_t hT.o, r1, Option.bind_some]
    · obtain ⟨A', a1, a2, a3, a4, a5⟩ := m_begin0 (M := M) (X := X) (A := A) hq
      exact ⟨A', a1, a2, Or.inl ⟨0, c0, g0, fun _ => 0, 0, es1, cn1, sg1, pa1, fs1, sn1, lf1, fun _ => 0, CI0, ov_idem, r2, a5, a3, a4⟩⟩
  · have : f = 1 := by omega
    subst this
    obtain ⟨cn1, sg1, pa1, fs1, sn1, lf1, r1, r2⟩ := e_beginSplayed (n := n) (P := P) (a := a) (h := h) (fm := fm') (sz := nI N') (es := es') (hv := hv') (cn := cn') (sg := sg') (pa := pa') (fs := fs') (sn := sn') (lf := lf') (by omega) hn
    rw [g1] at r1
    refine ⟨ov n P a 1 (nI (2 * n - 1)) (-1) 0 cn1 sg1 pa1 fs1 sn1 lf1 h, ?_, fun x hx => ov_out hx, fun M X hX => ?_⟩
    · unfold FT_beginAs
      rw [jn_eq]
      try dsimp only
      rw [if_pos (by rfl), gd_t hT.o, r1, Option.bind_some]
    · obtain ⟨A', a1, a2, a3, a4, a5⟩ := m_begin1 (M := M) (X := X) (A := A) hq (by omega) hn hX
      exact ⟨A', a1, a2, Or.inr ⟨uB, dB, 0, (-1), cn1, sg1, pa1, fs1, sn1, lf1, SI0, ov_idem, r2, a5, a3, a4⟩⟩
section FORM
variable {Z n wd B : Nat} {h : Hp}
theorem p_form (S : ST Z n wd B h) {p1 p2 : Int32} : OPC Z n wd B (FA_form h Z p1 p2) (fun h1 => FM_form h1 (Z + 97) p1 p2) := by
  obtain ⟨wb, tb, lm, hs, wr, tr, nd, nu, nb, X, A, S, hom⟩ := S
  have hK := S.2.1.1
  have bad : ∀ r, (FA_form h Z p1 p2 = some (h, r)) → (FM_form (om (Z + 97) X A h) (Z + 97) p1 p2 = some (om (Z + 97) (upd X 20 0) A h, r)) → OPC Z n wd B (FA_form h Z p1 p2) (fun h1 => FM_form h1 (Z + 97) p1 p2) := fun r e1 e2 => OPC_of (X' := upd X 20 0) (A' := A) (r := r) hom e1 (S.q u20 (fun _ _ => rfl)) e2
  rcases tr_cases p1 with ⟨t, ht, rfl, j2, j3⟩ | ⟨j2, j3⟩
  · rcases m_isIn1 (h := om (Z + 97) (upd X 20 0) A h) (p := p2) with ⟨k1, k2⟩ | ⟨k1, f, hf, rfl⟩
    · have h0 : ¬ p2 = 0 := fun e => k2 ⟨0, by omega, e⟩
      have h1 : ¬ p2 = 1 := fun e => k2 ⟨1, by omega, e⟩
      refine bad (-3) ?_ ?_
      · unfold FA_form
        rw [j2, Option.bind_some, if_neg (by decide), jn_eq]
        try dsimp only
        rw [if_neg h0, if_neg h1]
      · unfold FM_form
        rw [mp_20, j3, Option.bind_some, if_neg (by decide), k1, Option.bind_some, if_pos rfl]
    · have S0 := S.q0 (X' := upd X 20 0) u20
      have hX0 : upd X 20 0 0 = nI n := S.2.2.1.1
      obtain ⟨fm, N, es, hv, cn, sg, pa, fs, sn, lf, r1, r2, r3, r4, r5⟩ := (S.tre (q := t) (by omega)).sc
      have hb1 := ad_bd (Z := Z) (show t < 12 by omega)
      have hb2 := ad_bd (Z := Z) (show 4 + t < 12 by omega)
      have hdj := ad_dj (Z := Z) (show t < 12 by omega) (show 4 + t < 12 by omega) (by omega)
      obtain ⟨h1, c1, c2, c3⟩ := (S.tre (q := t) (by omega)).begin S.1.1 S.1.2.1 (by omega) hf
      obtain ⟨A1, a1, a2, a3⟩ := c3 (Z + 97) (upd X 20 0) hX0
      have T1 : ∀ q, q < 12 → TS Z n B q h1 A1 := fun q hq => by
        by_cases z : q = t
        · subst z; exact Or.inl a3
        · have := ad_dj (Z := Z) hq (show t < 12 by omega) z
          exact ((S.2.2.2.2.1 q hq).ag (fun x x1 x2 => c2 x (by omega))).sameQ S.1.2.1 (a2.sameQ z) a2.2.2.2.1
      obtain ⟨h2, d1, d2, d3⟩ := ((T1 (4 + t) (by omega)).tr (by omega)).begin S.1.1 S.1.2.1 (by omega) hf
      obtain ⟨A2, b1, b2, b3⟩ := d3 (Z + 97) (upd X 20 0) hX0
      have T2 : ∀ q, q < 12 → TS Z n (B + 1) q h2 A2 := fun q hq => by
        by_cases z : q = 4 + t
        · subst z; exact Or.inl (b3.mono (Nat.le_succ B))
        · have := ad_dj (Z := Z) hq (show 4 + t < 12 by omega) z
          exact (((T1 q hq).mono (Nat.le_succ B)).ag (fun x x1 x2 => d2 x (by omega))).sameQ S.1.2.1 (b2.sameQ z) b2.2.2.2.1
      have cc : ∀ x, (x < ad Z t ∨ ad Z t + 6 < x) → (x < ad Z (4 + t) ∨ ad Z (4 + t) + 6 < x) → h2 x = h x := fun x x1 x2 => by rw [d2 x x2, c2 x x1]
      obtain ⟨h3, tr3, nd3, nu3, nb3, l1, l2, l4⟩ := S0.relay (B' := B + 1) ht (fun x hx => cc x (by omega) (by omega)) (fun x hx => cc x (by omega) (by omega)) T2 (by rw [b2.2.2.2.1, a2.2.2.2.1]) (by rw [b2.2.2.2.2, a2.2.2.2.2]) (fun t' ht' hne x x1 x2 => by
        have := ad_dj (Z := Z) (show 4 + t' < 12 by omega) (show t < 12 by omega) (by omega)
        have := ad_dj (Z := Z) (show 4 + t' < 12 by omega) (show 4 + t < 12 by omega) (by omega)
        exact cc x (by omega) (by omega))
      have hK1 : KA Z n wd wb tb lm hs wr h1 := hK.ag (fun x _ _ => c2 x (by omega))
      have hK2 : KA Z n wd wb tb lm hs wr h2 := hK.ag (fun x _ _ => cc x (by omega) (by omega))
      have hG2 : KG Z tr nd nu nb h2 := S.2.1.2.1.ag (cc _ (by omega) (by omega))
      refine OPC_of (r := fm) (om_ag hom (fun x x1 _ => by rw [l2 x (by omega), cc x (by omega) (by omega)])) ?_ l4 ?_
      · have key : ∀ o : Option (Hp × Int32), (if nI f = 0 then o else if nI f = 1 then o else some (h, (-3))) = o := by
          intro o
          by_cases z : f = 0
          · subst z; rw [if_pos nI_0]
          · have : f = 1 := by omega
            subst this; rw [if_neg (by decide), if_pos (by rfl)]
        unfold FA_form
        rw [j2, Option.bind_some, if_neg (by decide), jn_eq]
        try dsimp only
        rw [key, hK.r2, hK.q1 ht, ad_w ht, gI_at (ov_hd r1) rfl, hK.r2, hK.q1 ht, ad_w ht, gd_t (S.tre (q := t) (by omega)).o, c1, Option.bind_some, hK1.r3, hK1.q2 ht, ad_r ht, gd_t ((T1 (4 + t) (by omega)).tr (by omega)).o, d1, Option.bind_some, hK2.r11, gd_t hG2.o, l1, Option.bind_some]
      · show FM_form _ _ _ _ = _
        have kin : FM_isIn (om (Z + 97) (upd X 20 0) A h3) (nI f) 0 1 = some 1 := by
          rcases m_isIn1 (h := om (Z + 97) (upd X 20 0) A h3) (p := nI f) with ⟨_, y⟩ | ⟨y, _⟩
          · exact absurd ⟨f, hf, rfl⟩ y
          · exact y
        unfold FM_form
        rw [mp_20, j3, Option.bind_some, if_neg (by decide), kin, Option.bind_some, if_neg (by decide), mr_fo, ml_fo (by omega), r2, gd_t o_om, a1, Option.bind_some, gd_t o_om, q4, b1, Option.bind_some, mi_16, jn_eq]
        try dsimp only
        by_cases z : upd X 20 0 16 = nI (4 + t)
        · rw [if_pos z, if_pos z, mp_16]
        · rw [if_neg z, if_neg z, mi_16, mp_16]
  · refine bad (-2) ?_ ?_
    · unfold FA_form
      rw [j2, Option.bind_some, if_pos rfl]
    · unfold FM_form
      rw [mp_20, j3, Option.bind_some, if_pos rfl]
end FORM
