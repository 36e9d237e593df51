/-! writing, with any continuation -/
section KAW
variable {Z n wd wb tb : Nat} {lm : Int32} {hs wr : Nat → Int32} {h : Hp}
theorem KA.P7 (k : KA Z n wd wb tb lm hs wr h) {v : Nat} : ∃ h', (∀ (β : Type) (K : Hp → Option β), pF h Z 4 7 (.int (nI v)) K = K h') ∧ KA Z n wd v tb lm hs wr h' ∧ ∀ x, x ≠ Z → h' x = h x := by
  refine ⟨_, fun β K => pF_at k.1 (Nat.le_of_ble_eq_true rfl), ⟨by rw [va_up_self]; rfl, ?_⟩, fun x hx => va_up_ne _ _ hx⟩
  rw [va_up_ne _ _ (by omega), va_up_ne _ _ (by omega), va_up_ne _ _ (by omega), va_up_ne _ _ (by omega), va_up_ne _ _ (by omega)]
  exact k.2
theorem KA.P8 (k : KA Z n wd wb tb lm hs wr h) {v : Nat} : ∃ h', (∀ (β : Type) (K : Hp → Option β), pF h Z 4 8 (.int (nI v)) K = K h') ∧ KA Z n wd wb v lm hs wr h' ∧ ∀ x, x ≠ Z → h' x = h x := by
  refine ⟨_, fun β K => pF_at k.1 (Nat.le_of_ble_eq_true rfl), ⟨by rw [va_up_self]; rfl, ?_⟩, fun x hx => va_up_ne _ _ hx⟩
  rw [va_up_ne _ _ (by omega), va_up_ne _ _ (by omega), va_up_ne _ _ (by omega), va_up_ne _ _ (by omega), va_up_ne _ _ (by omega)]
  exact k.2
theorem KA.P9 (k : KA Z n wd wb tb lm hs wr h) {v : Int32} : ∃ h', (∀ (β : Type) (K : Hp → Option β), pF h Z 4 9 (.int v) K = K h') ∧ KA Z n wd wb tb v hs wr h' ∧ ∀ x, x ≠ Z → h' x = h x := by
  refine ⟨_, fun β K => pF_at k.1 (Nat.le_of_ble_eq_true rfl), ⟨by rw [va_up_self]; rfl, ?_⟩, fun x hx => va_up_ne _ _ hx⟩
  rw [va_up_ne _ _ (by omega), va_up_ne _ _ (by omega), va_up_ne _ _ (by omega), va_up_ne _ _ (by omega), va_up_ne _ _ (by omega)]
  exact k.2
theorem KA.SW (k : KA Z n wd wb tb lm hs wr h) {t : Nat} {v : Int32} (ht : t < 1000) : ∃ h', (∀ (β : Type) (K : Hp → Option β), stI h (Z + 5) 0 (nI t) v K = K h') ∧ KA Z n wd wb tb lm hs (upd wr t v) h' ∧ ∀ x, x ≠ Z + 5 → h' x = h x := by
  refine ⟨_, fun β K => stI_at k.2.2.2.2.2 ht (by omega), ?_, fun x hx => va_up_ne _ _ hx⟩
  unfold KA
  rw [va_up_self, va_up_ne _ _ (by omega), va_up_ne _ _ (by omega), va_up_ne _ _ (by omega), va_up_ne _ _ (by omega), va_up_ne _ _ (by omega)]
  exact ⟨k.1, k.2.1, k.2.2.1, k.2.2.2.1, k.2.2.2.2.1, rfl⟩
theorem KA.SH (k : KA Z n wd wb tb lm hs wr h) {t : Nat} {v : Int32} (ht : t < 4) : ∃ h', (∀ (β : Type) (K : Hp → Option β), stI h (Z + 4) 1 (nI t) v K = K h') ∧ KA Z n wd wb tb lm (upd hs t v) wr h' ∧ ∀ x, x ≠ Z + 4 → h' x = h x := by
  refine ⟨_, fun β K => stI_at k.2.2.2.2.1 ht (by omega), ?_, fun x hx => va_up_ne _ _ hx⟩
  unfold KA
  rw [va_up_self, va_up_ne _ _ (by omega), va_up_ne _ _ (by omega), va_up_ne _ _ (by omega), va_up_ne _ _ (by omega), va_up_ne _ _ (by omega)]
  exact ⟨k.1, k.2.1, k.2.2.1, k.2.2.2.1, rfl, k.2.2.2.2.2⟩
end KAW
section KGW
variable {Z : Nat} {tr nd nu nb : Int32} {h : Hp}
theorem KG.P0 (k : KG Z tr nd nu nb h) {v : Int32} : ∃ h', (∀ (β : Type) (K : Hp → Option β), pF h (Z + 6) 2 0 (.int v) K = K h') ∧ KG Z v nd nu nb h' ∧ ∀ x, x ≠ Z + 6 → h' x = h x := ⟨_, fun β K => pF_at k (Nat.le_of_ble_eq_true rfl), by unfold KG; rw [va_up_self]; rfl, fun x hx => va_up_ne _ _ hx⟩
theorem KG.P1 (k : KG Z tr nd nu nb h) {v : Int32} : ∃ h', (∀ (β : Type) (K : Hp → Option β), pF h (Z + 6) 2 1 (.int v) K = K h') ∧ KG Z tr v nu nb h' ∧ ∀ x, x ≠ Z + 6 → h' x = h x := ⟨_, fun β K => pF_at k (Nat.le_of_ble_eq_true rfl), by unfold KG; rw [va_up_self]; rfl, fun x hx => va_up_ne _ _ hx⟩
theorem KG.P2 (k : KG Z tr nd nu nb h) {v : Int32} : ∃ h', (∀ (β : Type) (K : Hp → Option β), pF h (Z + 6) 2 2 (.int v) K = K h') ∧ KG Z tr nd v nb h' ∧ ∀ x, x ≠ Z + 6 → h' x = h x := ⟨_, fun β K => pF_at k (Nat.le_of_ble_eq_true rfl), by unfold KG; rw [va_up_self]; rfl, fun x hx => va_up_ne _ _ hx⟩
theorem KG.P3 (k : KG Z tr nd nu nb h) {v : Int32} : ∃ h', (∀ (β : Type) (K : Hp → Option β), pF h (Z + 6) 2 3 (.int v) K = K h') ∧ KG Z tr nd nu v h' ∧ ∀ x, x ≠ Z + 6 → h' x = h x := ⟨_, fun β K => pF_at k (Nat.le_of_ble_eq_true rfl), by unfold KG; rw [va_up_self]; rfl, fun x hx => va_up_ne _ _ hx⟩
end KGW
/-! the tests of numbers, both sides at once -/
theorem et_cases (p1 p2 : Int32) : (∃ e t : Nat, e < 2 ∧ t < 4 ∧ p1 = nI e ∧ p2 = nI t ∧ (∀ h, FA_isEnd h p1 = some 1) ∧ (∀ h, FA_isTree h p2 = some 1) ∧ ∀ h, FM_isTree h p1 p2 = some 1) ∨ (((∀ h, FA_isEnd h p1 = some 0) ∨ ((∀ h, FA_isEnd h p1 = some 1) ∧ ∀ h, FA_isTree h p2 = some 0)) ∧ ∀ h, FM_isTree h p1 p2 = some 0) := by
  by_cases z1 : ∃ t : Nat, t < 2 ∧ p1 = nI t
  · have k1 : ∀ h, FA_isEnd h p1 = some 1 := fun h => by
      rcases e_isEnd (h := h) (p := p1) with ⟨_, x⟩ | ⟨x, _⟩
      · exact absurd z1 x
      · exact x
    by_cases z2 : ∃ t : Nat, t < 4 ∧ p2 = nI t
    · left
      obtain ⟨e, e1, e2⟩ := z1
      obtain ⟨t, t1, t2⟩ := z2
      refine ⟨e, t, e1, t1, e2, t2, k1, fun h => ?_, fun h => ?_⟩
      · rcases e_isTree (h := h) (p := p2) with ⟨_, x⟩ | ⟨x, _⟩
        · exact absurd ⟨t, t1, t2⟩ x
        · exact x
      · rcases m_isTree (h := h) (p := p1) (r := p2) with ⟨_, x⟩ | ⟨x, _⟩
        · exact absurd ⟨⟨e, e1, e2⟩, t, t1, t2⟩ x
        · exact x
    · right
      refine ⟨Or.inr ⟨k1, fun h => ?_⟩, fun h => ?_⟩
      · rcases e_isTree (h := h) (p := p2) with ⟨x, _⟩ | ⟨_, x⟩
        · exact x
        · exact absurd x z2
      · rcases m_isTree (h := h) (p := p1) (r := p2) with ⟨x, _⟩ | ⟨_, _, x⟩
        · exact x
        · exact absurd x z2
  · right
    refine ⟨Or.inl fun h => ?_, fun h => ?_⟩
    · rcases e_isEnd (h := h) (p := p1) with ⟨x, _⟩ | ⟨_, x⟩
      · exact x
      · exact absurd x z1
    · rcases m_isTree (h := h) (p := p1) (r := p2) with ⟨x, _⟩ | ⟨_, x, _⟩
      · exact x
      · exact absurd x z1
theorem tr_cases (p : Int32) : (∃ t : Nat, t < 4 ∧ p = nI t ∧ (∀ h, FA_isTree h p = some 1) ∧ ∀ h, FM_isIn h p 0 3 = some 1) ∨ ((∀ h, FA_isTree h p = some 0) ∧ ∀ h, FM_isIn h p 0 3 = some 0) := by
  by_cases z : ∃ t : Nat, t < 4 ∧ p = nI t
  · left
    obtain ⟨t, t1, t2⟩ := z
    refine ⟨t, t1, t2, fun h => ?_, fun h => ?_⟩
    · rcases e_isTree (h := h) (p := p) with ⟨_, x⟩ | ⟨x, _⟩
      · exact absurd ⟨t, t1, t2⟩ x
      · exact x
    · rcases m_isIn3 (h := h) (p := p) with ⟨_, x⟩ | ⟨x, _⟩
      · exact absurd ⟨t, t1, t2⟩ x
      · exact x
  · right
    refine ⟨fun h => ?_, fun h => ?_⟩
    · rcases e_isTree (h := h) (p := p) with ⟨x, _⟩ | ⟨_, x⟩
      · exact x
      · exact absurd x z
    · rcases m_isIn3 (h := h) (p := p) with ⟨x, _⟩ | ⟨_, x⟩
      · exact x
      · exact absurd x z
theorem sg_cases {Z n wd wb tb : Nat} {lm : Int32} {hs wr : Nat → Int32} {h : Hp} (k : KA Z n wd wb tb lm hs wr h) (hn0 : 0 < n) (hn : n ≤ 64) (p : Int32) : (∃ t : Nat, t < n ∧ p = nI t ∧ FA_isSign h Z p = some 1 ∧ ∀ h', FM_isIn h' p 0 (nI n - 1) = some 1) ∨ ((¬ ∃ t : Nat, t < n ∧ p = nI t) ∧ FA_isSign h Z p = some 0 ∧ ∀ h', FM_isIn h' p 0 (nI n - 1) = some 0) := by
  rcases e_isSign k hn (p := p) with ⟨a, z⟩ | ⟨a, z⟩
  · right
    refine ⟨z, a, fun h' => ?_⟩
    rcases m_isIn (h := h') (p := p) (k := n) hn0 (by omega) with ⟨x, _⟩ | ⟨_, x⟩
    · exact x
    · exact absurd x z
  · left
    obtain ⟨t, t1, t2⟩ := z
    refine ⟨t, t1, t2, a, fun h' => ?_⟩
    rcases m_isIn (h := h') (p := p) (k := n) hn0 (by omega) with ⟨_, x⟩ | ⟨x, _⟩
    · exact absurd ⟨t, t1, t2⟩ x
    · exact x
/-- what lies in a tree's head, on both sides -/
theorem TR.sc {n P B a q : Nat} {h : Hp} {A : Nat → Nat → Int32} (hT : TR n P B a q h A) : ∃ (fm : Int32) (N : Nat) (es hv : Int32) (cn sg pa fs sn lf : Nat → Int32), ov n P a fm (nI N) es hv cn sg pa fs sn lf h = h ∧ A 1 q = fm ∧ A 2 q = nI N ∧ A 3 q = hv ∧ (fm = 0 ∨ fm = 1) := by
  rcases hT with ⟨m, c, g, o, hv, es, cn, sg, pa, fs, sn, lf, t, h1, h2, h3, h4, h5, h6⟩ | ⟨u, d, hv, es, cn, sg, pa, fs, sn, lf, h1, h2, h3, h4, h5, h6⟩
  · exact ⟨0, _, es, hv, cn, sg, pa, fs, sn, lf, h2, h5, h4.1, h6, Or.inl rfl⟩
  · exact ⟨1, _, es, hv, cn, sg, pa, fs, sn, lf, h2, h5, h4.1, h6, Or.inr rfl⟩
theorem ov_hd {n P a : Nat} {fm sz es hv : Int32} {cn sg pa fs sn lf : Nat → Int32} {h : Hp} (e : ov n P a fm sz es hv cn sg pa fs sn lf h = h) : h a = some (.inr (3, [.int (nI n), .ref P, .ref (a + 1), .ref (a + 2), .ref (a + 3), .ref (a + 4), .ref (a + 5), .ref (a + 6), .int fm, .int sz, .int es, .int hv])) := by
  rw [← e]; exact ov_0
theorem TR.o {n P B a q : Nat} {h : Hp} {A : Nat → Nat → Int32} (hT : TR n P B a q h A) : isO h a 3 = true := by
  obtain ⟨fm, N, es, hv, cn, sg, pa, fs, sn, lf, e, _⟩ := hT.sc
  exact isO_at (ov_hd e)
section SMALL
variable {Z n wd B : Nat} {h : Hp}
theorem p_halved (S : ST Z n wd B h) {p1 p2 : Int32} : OPQ Z n wd B h (FA_halved h Z p1 p2) (FM_halved h (Z + 97) p1 p2) := by
  obtain ⟨wb, tb, lm, hs, wr, tr, nd, nu, nb, X, A, S, hom⟩ := S
  rcases et_cases p1 p2 with ⟨e, t, he, ht, rfl, rfl, k1, k2, k3⟩ | ⟨k1, k3⟩
  · have hT := S.tre (q := 4 * e + t) (by omega)
    obtain ⟨fm, N, es, hv, cn, sg, pa, fs, sn, lf, r1, r2, r3, r4, r5⟩ := hT.sc
    refine OPQ_of (m := fun h => FM_halved h (Z + 97) (nI e) (nI t)) (r := hv) (X' := upd X 20 0) (A' := A) S hom ?_ u20 (fun _ _ => rfl) ?_
    · unfold FA_halved
      rw [k1, Option.bind_some, jn_eq]
      try dsimp only
      rw [jn_eq]
      try dsimp only
      rw [if_neg (by decide), k2, Option.bind_some, if_neg (by decide), gd_t S.2.1.1.o, e_treeOf S.2.1.1 he ht, Option.bind_some, ad_et he ht, gI_at (ov_hd r1) rfl]
    · show FM_halved _ _ _ _ = _
      unfold FM_halved
      rw [mp_20, k3, Option.bind_some, jn_eq]
      try dsimp only
      rw [if_neg (by decide), mr_ha, qet, ml_ha (by omega), r4]
  · refine OPQ_of (m := fun h => FM_halved h (Z + 97) p1 p2) (r := (-2)) (X' := upd X 20 0) (A' := A) S hom ?_ u20 (fun _ _ => rfl) ?_
    · unfold FA_halved
      rcases k1 with k1 | ⟨k1, k2⟩
      · rw [k1, Option.bind_some, jn_eq]
        try dsimp only
        rw [jn_eq]
        try dsimp only
        rw [if_pos rfl]
      · rw [k1, Option.bind_some, jn_eq]
        try dsimp only
        rw [jn_eq]
        try dsimp only
        rw [if_neg (by decide), k2, Option.bind_some, if_pos rfl]
    · show FM_halved _ _ _ _ = _
      unfold FM_halved
      rw [mp_20, k3, Option.bind_some, jn_eq]
      try dsimp only
      rw [if_pos rfl]
theorem p_nodes (S : ST Z n wd B h) {p1 p2 : Int32} : OPQ Z n wd B h (FA_nodes h Z p1 p2) (FM_nodes h (Z + 97) p1 p2) := by
  obtain ⟨wb, tb, lm, hs, wr, tr, nd, nu, nb, X, A, S, hom⟩ := S
  rcases et_cases p1 p2 with ⟨e, t, he, ht, rfl, rfl, k1, k2, k3⟩ | ⟨k1, k3⟩
  · have hT := S.tre (q := 4 * e + t) (by omega)
    obtain ⟨fm, N, es, hv, cn, sg, pa, fs, sn, lf, r1, r2, r3, r4, r5⟩ := hT.sc
    refine OPQ_of (m := fun h => FM_nodes h (Z + 97) (nI e) (nI t)) (r := nI N) (X' := upd X 20 0) (A' := A) S hom ?_ u20 (fun _ _ => rfl) ?_
    · unfold FA_nodes
      rw [k1, Option.bind_some, jn_eq]
      try dsimp only
      rw [jn_eq]
      try dsimp only
      rw [if_neg (by decide), k2, Option.bind_some, if_neg (by decide), gd_t S.2.1.1.o, e_treeOf S.2.1.1 he ht, Option.bind_some, ad_et he ht, gI_at (ov_hd r1) rfl]
    · show FM_nodes _ _ _ _ = _
      unfold FM_nodes
      rw [mp_20, k3, Option.bind_some, jn_eq]
      try dsimp only
      rw [if_neg (by decide), mr_ma, qet, ml_ma (by omega), r3]
  · refine OPQ_of (m := fun h => FM_nodes h (Z + 97) p1 p2) (r := (-2)) (X' := upd X 20 0) (A' := A) S hom ?_ u20 (fun _ _ => rfl) ?_
    · unfold FA_nodes
      rcases k1 with k1 | ⟨k1, k2⟩
      · rw [k1, Option.bind_some, jn_eq]
        try dsimp only
        rw [jn_eq]
        try dsimp only
        rw [if_pos rfl]
      · rw [k1, Option.bind_some, jn_eq]
        try dsimp only
        rw [jn_eq]
        try dsimp only
        rw [if_neg (by decide), k2, Option.bind_some, if_pos rfl]
    · show FM_nodes _ _ _ _ = _
      unfold FM_nodes
      rw [mp_20, k3, Option.bind_some, jn_eq]
      try dsimp only
      rw [if_pos rfl]
theorem p_limit (S : ST Z n wd B h) {p : Int32} : OPC Z n wd B (FA_limit h Z p) (fun h1 => FM_limit h1 (Z + 97) p) := by
  obtain ⟨wb, tb, lm, hs, wr, tr, nd, nu, nb, X, A, S, hom⟩ := S
  by_cases e : ¬ p < 8 ∧ p ≤ 100000
  · obtain ⟨h1, a1, b1, c1⟩ := S.2.1.1.P9 (v := p)
    have ho1 : om (Z + 97) X A h1 = h1 := om_ag hom (fun x _ _ => c1 x (by omega))
    obtain ⟨s1, ⟨t1, t2, ⟨r, ln, t3⟩, ⟨pc, ps, pf, pz, t4⟩⟩, s3, s4, s5, s6⟩ := S
    refine OPC_of (X' := upd (upd X 20 0) 2 p) (A' := A) (r := lm) ho1 ?_ (⟨s1, ⟨b1, t2.ag (c1 _ (by omega)), ⟨r, ln, oc_ag t3 (c1 _ (by omega)) (c1 _ (by omega))⟩, ⟨pc, ps, pf, pz, op_ag t4 (fun x _ _ => c1 x (by omega))⟩⟩, ?_, s4.ag ⟨rfl, rfl, rfl, rfl⟩ ?_, ?_, ?_⟩ : SS Z n wd (B + 1) wb tb p hs wr tr nd nu nb (upd (upd X 20 0) 2 p) A h1) ?_
    · unfold FA_limit
      rw [jn_eq]
      try dsimp only
      rw [if_neg e.1, if_pos e.2, t1.i9, a1]
    · exact ⟨s3.1, s3.2.1, rfl, s3.2.2.2⟩
    · intro t ht _ x h1 h2
      have := ad_bd (Z := Z) (q := 4 + t) (by omega)
      exact c1 x (by omega)
    · intro q hq
      have := ad_bd (Z := Z) hq
      exact ((s5 q hq).mono (Nat.le_succ B)).ag (fun x _ _ => c1 x (by omega))
    · obtain ⟨f, hf⟩ := s6
      exact ⟨f, by rw [c1 _ (by omega)]; exact hf⟩
    · show FM_limit _ _ _ = _
      unfold FM_limit
      rw [mp_20]
      have : FM_isIn (om (Z + 97) (upd X 20 0) A h1) p 8 100000 = some 1 := by
        unfold FM_isIn
        rw [jn_eq]
        try dsimp only
        rw [jn_eq]
        try dsimp only
        rw [if_neg e.1, if_neg (Int32.not_lt.mpr e.2), gd_t (Or.inr rfl)]
      rw [this, Option.bind_some, if_neg (by decide), mi_2, mp_2]
      rw [show upd X 20 0 2 = X 2 from rfl, s3.2.2.1]
  · refine OPC_of (X' := upd X 20 0) (A' := A) (r := (-3)) hom ?_ (S.q u20 (fun _ _ => rfl)) ?_
    · unfold FA_limit
      rw [jn_eq]
      try dsimp only
      by_cases e1 : p < 8
      · rw [if_pos e1]
      · rw [if_neg e1, if_neg (fun z => e ⟨e1, z⟩)]
    · show FM_limit _ _ _ = _
      unfold FM_limit
      rw [mp_20]
      have : FM_isIn (om (Z + 97) (upd X 20 0) A h) p 8 100000 = some 0 := by
        unfold FM_isIn
        rw [jn_eq]
        try dsimp only
        rw [jn_eq]
        try dsimp only
        by_cases e1 : p < 8
        · rw [if_pos e1, gd_t (Or.inl rfl)]
        · rw [if_neg e1, if_pos (Int32.not_le.mp (fun z => e ⟨e1, z⟩)), gd_t (Or.inl rfl)]
      rw [this, Option.bind_some, if_pos rfl]
theorem p_drop (S : ST Z n wd B h) : OPC Z n wd B (FA_drop h Z) (fun h1 => FM_drop h1 (Z + 97)) := by
  obtain ⟨wb, tb, lm, hs, wr, tr, nd, nu, nb, X, A, S, hom⟩ := S
  obtain ⟨s1, ⟨t1, t2, ⟨r, ln, t3⟩, ⟨pc, ps, pf, pz, t4⟩⟩, s3, s4, s5, s6⟩ := S
  obtain ⟨h1, a1, b1, c1⟩ := t1.P7 (v := 0)
  obtain ⟨h2, a2, b2, c2⟩ := b1.P8 (v := 0)
  have t2' : KG Z tr nd nu nb h2 := t2.ag (by rw [c2 _ (by omega), c1 _ (by omega)])
  obtain ⟨h3, a3, b3, c3⟩ := e_Rbegin t2'
  have cc : ∀ x, x ≠ Z → x ≠ Z + 6 → h3 x = h x := fun x x1 x2 => by rw [c3 x x2, c2 x x1, c1 x x1]
  have ho1 : om (Z + 97) X A h3 = h3 := om_ag hom (fun x _ _ => cc x (by omega) (by omega))
  refine OPC_of (X' := upd (upd (upd (upd X 20 0) 13 0) 15 0) 16 (-1)) (A' := A) (r := nI wb) ho1 ?_ (⟨s1, ⟨b2.ag (fun x _ _ => c3 x (by omega)), b3, ⟨r, ln, oc_ag t3 (cc _ (by omega) (by omega)) (cc _ (by omega) (by omega))⟩, ⟨pc, ps, pf, pz, op_ag t4 (fun x _ _ => cc x (by omega) (by omega))⟩⟩, ?_, Or.inl ⟨rfl, rfl, rfl, rfl, rfl⟩, ?_, ?_⟩ : SS Z n wd (B + 1) 0 0 lm hs wr (-1) 0 0 0 (upd (upd (upd (upd X 20 0) 13 0) 15 0) 16 (-1)) A h3) ?_
  · unfold FA_drop
    rw [t1.i7, show (0 : Int32) = nI 0 from rfl, a1, a2, b2.r11, gd_t t2'.o, a3, Option.bind_some]
  · exact ⟨s3.1, s3.2.1, s3.2.2.1, rfl, rfl, Nat.le_refl 0, Nat.zero_le _, fun j hj => absurd hj (Nat.not_lt_zero j), s3.2.2.2.2.2.2.2.2⟩
  · intro q hq
    have := ad_bd (Z := Z) hq
    exact ((s5 q hq).mono (Nat.le_succ B)).ag (fun x _ _ => cc x (by omega) (by omega))
  · obtain ⟨f, hf⟩ := s6
    exact ⟨f, by rw [cc _ (by omega) (by omega)]; exact hf⟩
  · show FM_drop _ _ = _
    unfold FM_drop
    rw [mp_20, mi_13, mp_13, mp_15, mp_16]
    rw [show upd X 20 0 13 = X 13 from rfl, s3.2.2.2.1]
end SMALL
