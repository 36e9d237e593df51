/-! CALLS that ask for a code, and a step of one tree in the whole state -/
theorem m_isInZ {h : Hp} {p : Int32} {k : Nat} (hk : k < 2 ^ 31) : (FM_isIn h p 0 (nI k - 1) = some 0 ∧ ¬ ∃ t : Nat, t < k ∧ p = nI t) ∨ (FM_isIn h p 0 (nI k - 1) = some 1 ∧ ∃ t : Nat, t < k ∧ p = nI t) := by
  by_cases z : k = 0
  · left
    subst z
    refine ⟨?_, fun ⟨t, t1, _⟩ => by omega⟩
    unfold FM_isIn
    rw [jn_eq]
    try dsimp only
    rw [jn_eq]
    try dsimp only
    by_cases e1 : p < 0
    · rw [if_pos e1, gd_t (Or.inl rfl)]
    · rw [if_neg e1, if_pos (by rw [show (nI 0 - 1 : Int32) = (-1) from rfl]; exact Int32.lt_of_lt_of_le (by decide) (Int32.not_lt.mp e1)), gd_t (Or.inl rfl)]
  · exact m_isIn (by omega) hk
theorem updS {f : Nat → Int32} {k : Nat} {v : Int32} : upd f k v k = v := if_pos rfl
theorem u25 {X : Nat → Int32} {v w : Int32} : ∀ k, k ≠ 20 → k ≠ 25 → upd (upd X 20 v) 25 w k = X k := fun _ h h' => by
  show (if _ then _ else _) = _
  rw [if_neg h']; exact if_neg h
theorem sameQ_s {q : Nat} {A A' : Nat → Nat → Int32} (h : ∀ i, i ≠ 15 → i ≠ 11 → i ≠ 4 → A' i = A i) : sameQ q A A' := by
  refine ⟨by rw [h 1 (by decide) (by decide) (by decide)], by rw [h 2 (by decide) (by decide) (by decide)], by rw [h 3 (by decide) (by decide) (by decide)], fun j _ _ => ?_, fun j _ _ => by rw [h 8 (by decide) (by decide) (by decide)]⟩
  rw [h 5 (by decide) (by decide) (by decide), h 6 (by decide) (by decide) (by decide), h 7 (by decide) (by decide) (by decide), h 9 (by decide) (by decide) (by decide), h 10 (by decide) (by decide) (by decide)]
  exact ⟨rfl, rfl, rfl, rfl, rfl⟩
section COD2
variable {Z n wd B wb tb : Nat} {lm : Int32} {hs wr : Nat → Int32} {tr nd nu nb : Int32} {X : Nat → Int32} {A : Nat → Nat → Int32} {h : Hp}
theorem SS.step {q s : Nat} (S : SS Z n wd B wb tb lm hs wr tr nd nu nb X A h) (hq8 : q < 8) (hs' : s < n) (hB : B < 2 ^ 27) (hR : ∀ t, t < 4 → tr = nI t → q ≠ 4 + t) : ∃ h', FT_stepBy h (ad Z q) (nI s) lm = some h' ∧ (∀ x, x < Z + 9 → h' x = h x) ∧ (∀ x, Z + 97 ≤ x → h' x = h x) ∧ ∃ A', FM_steps (om (Z + 97) X A h') (Z + 97) (nI q) (nI s) = some (om (Z + 97) X A' h') ∧ SS Z n wd (B + 1) wb tb lm hs wr tr nd nu nb X A' h' := by
  obtain ⟨s1, ⟨t1, t2, ⟨r, ln, t3⟩, ⟨pc, ps, pf, pz, t4⟩⟩, s3, s4, s5, s6⟩ := S
  have hq : q < 12 := by omega
  have hb := ad_bd (Z := Z) hq
  obtain ⟨h', e1, e2, e3, e4⟩ := ((s5 q hq).tr hq8).step (M := Z + 97) (X := X) (lim := lm) (by omega) s1.1 s1.2.1 hq hB hs' s3.1 s3.2.2.1 t4
  have hlo : ∀ x, x < Z + 9 → h' x = h x := fun x hx => e2 x (by omega) (by omega)
  have hhi : ∀ x, Z + 97 ≤ x → h' x = h x := fun x hx => e2 x (by omega) (by omega)
  obtain ⟨A', a1, a2, a3⟩ := e4 h'
  refine ⟨h', e1, hlo, hhi, A', a1, s1, ⟨t1.ag (fun x _ _ => hlo x (by omega)), t2.ag (hlo _ (by omega)), ⟨r, ln, oc_ag t3 (hlo _ (by omega)) (hlo _ (by omega))⟩, e3⟩, s3.ag ⟨rfl, rfl, rfl, rfl, rfl⟩ a2.2.2.2.1 a2.2.2.2.2, s4.ag ⟨rfl, rfl, rfl, rfl⟩ (fun t ht htr x x1 x2 => ?_), fun q' hq' => ?_, ?_⟩
  · have := ad_dj (Z := Z) hq (show 4 + t < 12 by omega) (hR t ht htr)
    have := ad_bd (Z := Z) (q := 4 + t) (by omega)
    exact e2 x (by omega) (by omega)
  · by_cases z : q' = q
    · subst z; exact Or.inl a3
    · have := ad_dj (Z := Z) hq' hq z
      have := ad_bd (Z := Z) hq'
      exact (((s5 q' hq').mono (Nat.le_succ B)).ag (fun x x1 x2 => e2 x (by omega) (by omega))).sameQ s1.2.1 (a2.sameQ z) a2.2.2.2.1
  · obtain ⟨f, hf⟩ := s6
    exact ⟨f, by rw [hhi _ (by omega)]; exact hf⟩
theorem SS.lay {q s : Nat} (S : SS Z n wd B wb tb lm hs wr tr nd nu nb X A h) (hq8 : q < 8) (hs' : s < n) (hom : om (Z + 97) X A h = h) : ∃ (len : Nat) (cb : Nat → Nat) (r : Nat → Int32), FA_layCode h Z (ad Z q) (nI s) = some (oc (Z + 7) (2 * n + 1 + wd) r (nI len) h) ∧ len ≤ 2 * n + wd ∧ (∀ j, j < len → cb j < 2 ∧ r j = nI (cb j)) ∧ om (Z + 97) X A (oc (Z + 7) (2 * n + 1 + wd) r (nI len) h) = oc (Z + 7) (2 * n + 1 + wd) r (nI len) h ∧ ∀ h2 : Hp, ∃ A' : Nat → Nat → Int32, FM_find (om (Z + 97) (upd X 20 0) A h2) (Z + 97) (nI q) (nI s) = some (om (Z + 97) (upd (upd X 20 0) 25 (nI len)) A' h2) ∧ (∀ i, i ≠ 15 → A' i = A i) ∧ MB A' len cb := by
  obtain ⟨s1, ⟨t1, t2, ⟨r, ln, t3⟩, t4⟩, s3, s4, s5, s6⟩ := S
  have hq : q < 12 := by omega
  have hb := ad_bd (Z := Z) hq
  obtain ⟨len, cb, r', e1, e2, e3, e4⟩ := TR.code (X := upd X 20 0) s1 ((s5 q hq).tr hq8) t1 t3 (by omega) hq hs' s3.1 s3.2.1
  exact ⟨len, cb, r', e1, e2, e3, om_ag hom (fun x _ _ => oc_out (by omega)), e4 (Z + 97)⟩
end COD2
section CALLS
variable {Z n wd B : Nat} {h : Hp}
theorem p_cost (S : ST Z n wd B h) {p1 p2 p3 : Int32} : OPC Z n wd B (FA_cost h Z p1 p2 p3) (fun h1 => FM_cost h1 (Z + 97) p1 p2 p3) := by
  obtain ⟨wb, tb, lm, hs, wr, tr, nd, nu, nb, X, A, S, hom⟩ := S
  have hK := S.2.1.1
  have hX0 : upd X 20 0 0 = nI n := S.2.2.1.1
  obtain ⟨n0, n1, w0, w1, w2⟩ := S.1
  rcases et_cases p1 p2 with ⟨e, t, he, ht, rfl, rfl, k1, k2, k3⟩ | ⟨k1, k3⟩
  · rcases sg_cases hK (by omega) n1 p3 with ⟨s, hs', rfl, g1, g2⟩ | ⟨-, g1, g2⟩
    · obtain ⟨len, cb, r, e1, e2, e3, e4, hf⟩ := S.lay (q := 4 * e + t) (by omega) hs' hom
      obtain ⟨A', e5, e6, e7⟩ := hf (oc (Z + 7) (2 * n + 1 + wd) r (nI len) h)
      refine OPC_of (X' := upd (upd X 20 0) 25 (nI len)) (r := nI len) e4 ?_ (S.code.q u25 e6) ?_
      · unfold FA_cost
        rw [k1, Option.bind_some, jn_eq]
        try dsimp only
        rw [if_neg (by decide), k2, Option.bind_some, if_neg (by decide), gd_t hK.o, g1, Option.bind_some, if_neg (by decide), gd_t hK.o, e_treeOf hK he ht, Option.bind_some, gd_t hK.o, ad_et he ht, e1, Option.bind_some, gR_oc (by omega), hK.r10, c_i]
      · show FM_cost _ _ _ _ _ = _
        unfold FM_cost
        rw [mp_20, k3, Option.bind_some, if_neg (by decide), mi_0, hX0, g2, Option.bind_some, if_neg (by decide), gd_t o_om, qet, e5, Option.bind_some, mi_25, updS]
    · refine OPC_of (X' := upd X 20 0) (A' := A) (r := (-3)) hom ?_ (S.q u20 (fun _ _ => rfl)) ?_
      · unfold FA_cost
        rw [k1, Option.bind_some, jn_eq]
        try dsimp only
        rw [if_neg (by decide), k2, Option.bind_some, if_neg (by decide), gd_t hK.o, g1, Option.bind_some, if_pos rfl]
      · show FM_cost _ _ _ _ _ = _
        unfold FM_cost
        rw [mp_20, k3, Option.bind_some, if_neg (by decide), mi_0, hX0, g2, Option.bind_some, if_pos rfl]
  · refine OPC_of (X' := upd X 20 0) (A' := A) (r := (-2)) hom ?_ (S.q u20 (fun _ _ => rfl)) ?_
    · unfold FA_cost
      rcases k1 with k1 | ⟨k1, k2⟩
      · rw [k1, Option.bind_some, jn_eq]
        try dsimp only
        rw [if_pos rfl]
      · rw [k1, Option.bind_some, jn_eq]
        try dsimp only
        rw [if_neg (by decide), k2, Option.bind_some, if_pos rfl]
    · show FM_cost _ _ _ _ _ = _
      unfold FM_cost
      rw [mp_20, k3, Option.bind_some, if_pos rfl]
theorem p_code (S : ST Z n wd B h) {p1 p2 p3 p4 : Int32} : OPC Z n wd B (FA_code h Z p1 p2 p3 p4) (fun h1 => FM_code h1 (Z + 97) p1 p2 p3 p4) := by
  obtain ⟨wb, tb, lm, hs, wr, tr, nd, nu, nb, X, A, S, hom⟩ := S
  have hK := S.2.1.1
  have hX0 : upd X 20 0 0 = nI n := S.2.2.1.1
  obtain ⟨n0, n1, w0, w1, w2⟩ := S.1
  rcases et_cases p1 p2 with ⟨e, t, he, ht, rfl, rfl, k1, k2, k3⟩ | ⟨k1, k3⟩
  · rcases sg_cases hK (by omega) n1 p3 with ⟨s, hs', rfl, g1, g2⟩ | ⟨-, g1, g2⟩
    · obtain ⟨len, cb, r, e1, e2, e3, e4, hf⟩ := S.lay (q := 4 * e + t) (by omega) hs' hom
      obtain ⟨A', e5, e6, e7⟩ := hf (oc (Z + 7) (2 * n + 1 + wd) r (nI len) h)
      have hr := e_range (p := p4) (k := len) (by omega)
      have cA : ∀ x, FC_bitAt (oc (Z + 7) (2 * n + 1 + wd) r (nI len) h) (Z + 7) p4 = some x → FA_code h Z (nI e) (nI t) (nI s) p4 = some (oc (Z + 7) (2 * n + 1 + wd) r (nI len) h, x) := by
        intro x hx
        unfold FA_code
        rw [k1, Option.bind_some, jn_eq]
        try dsimp only
        rw [if_neg (by decide), k2, Option.bind_some, if_neg (by decide), gd_t hK.o, g1, Option.bind_some, if_neg (by decide), gd_t hK.o, e_treeOf hK he ht, Option.bind_some, gd_t hK.o, ad_et he ht, e1, Option.bind_some, gR_oc (by omega), hK.r10, gd_t c_o, hx, Option.bind_some]
      rcases m_isInZ (h := om (Z + 97) (upd (upd X 20 0) 25 (nI len)) A' (oc (Z + 7) (2 * n + 1 + wd) r (nI len) h)) (p := p4) (k := len) (by omega) with ⟨b1, b2⟩ | ⟨b1, j, j1, rfl⟩
      · refine OPC_of (X' := upd (upd X 20 0) 25 (nI len)) (r := (-1)) e4 (cA _ ?_) (S.code.q u25 e6) ?_
        · unfold FC_bitAt
          rw [jn_eq]
          try dsimp only
          rw [jn_eq]
          try dsimp only
          by_cases z1 : p4 < 0
          · rw [if_pos z1]
          · rw [if_neg z1, c_i]
            by_cases z2 : nI len ≤ p4
            · rw [if_pos z2]
            · exact absurd (hr.mp ⟨z1, z2⟩) b2
        · show FM_code _ _ _ _ _ _ = _
          unfold FM_code
          rw [mp_20, k3, Option.bind_some, if_neg (by decide), mi_0, hX0, g2, Option.bind_some, if_neg (by decide), gd_t o_om, qet, e5, Option.bind_some, mi_25, updS, b1, Option.bind_some, jn_eq]
          try dsimp only
          rw [if_pos rfl]
      · have hx := hr.mpr ⟨j, j1, rfl⟩
        refine OPC_of (X' := upd (upd X 20 0) 25 (nI len)) (r := nI (cb j)) e4 (cA _ ?_) (S.code.q u25 e6) ?_
        · unfold FC_bitAt
          rw [jn_eq]
          try dsimp only
          rw [jn_eq]
          try dsimp only
          rw [if_neg hx.1, c_i, if_neg hx.2, c_r, c_l (by omega) (by omega), (e3 j j1).2]
        · show FM_code _ _ _ _ _ _ = _
          unfold FM_code
          rw [mp_20, k3, Option.bind_some, if_neg (by decide), mi_0, hX0, g2, Option.bind_some, if_neg (by decide), gd_t o_om, qet, e5, Option.bind_some, mi_25, updS, b1, Option.bind_some, jn_eq]
          try dsimp only
          obtain ⟨l', rfl⟩ : ∃ l', len = l' + 1 := ⟨len - 1, by omega⟩
          rw [if_neg (by decide), mr_bk, mi_25, updS, nI_s1, pk_sub (by omega), ml_bk (by omega)]
          have hm := e7 j j1
          rw [show l' + 1 - 1 - j = l' - j from by omega] at hm
          rw [hm]
          have hc := (e3 j j1).1
          by_cases z : cb j = 0
          · rw [z, if_pos nI_0]; rfl
          · have : cb j = 1 := by omega
            rw [this, if_neg (by decide)]; rfl
    · refine OPC_of (X' := upd X 20 0) (A' := A) (r := (-3)) hom ?_ (S.q u20 (fun _ _ => rfl)) ?_
      · unfold FA_code
        rw [k1, Option.bind_some, jn_eq]
        try dsimp only
        rw [if_neg (by decide), k2, Option.bind_some, if_neg (by decide), gd_t hK.o, g1, Option.bind_some, if_pos rfl]
      · show FM_code _ _ _ _ _ _ = _
        unfold FM_code
        rw [mp_20, k3, Option.bind_some, if_neg (by decide), mi_0, hX0, g2, Option.bind_some, if_pos rfl]
  · refine OPC_of (X' := upd X 20 0) (A' := A) (r := (-2)) hom ?_ (S.q u20 (fun _ _ => rfl)) ?_
    · unfold FA_code
      rcases k1 with k1 | ⟨k1, k2⟩
      · rw [k1, Option.bind_some, jn_eq]
        try dsimp only
        rw [if_pos rfl]
      · rw [k1, Option.bind_some, jn_eq]
        try dsimp only
        rw [if_neg (by decide), k2, Option.bind_some, if_pos rfl]
    · show FM_code _ _ _ _ _ _ = _
      unfold FM_code
      rw [mp_20, k3, Option.bind_some, if_pos rfl]
end CALLS
