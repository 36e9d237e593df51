/-! KNOWS and ESCAPE -/
theorem TR.known {n P B a q s : Nat} {h : Hp} {A : Nat → Nat → Int32} (hT : TR n P B a q h A) (hn : n ≤ 64) (hq : q < 12) (hs : s < n) : ∃ b, b < 2 ∧ FT_hasLeafOf h a (nI s) = some (nI b) ∧ ∀ M X h2, FM_isKnown (om M X A h2) M (nI q) (nI s) = some (nI b) := by
  rcases hT with ⟨m, c, g, o, hv, es, cn, sg, pa, fs, sn, lf, t, h1, h2, h3, h4, h5, h6⟩ | ⟨u, d, hv, es, cn, sg, pa, fs, sn, lf, h1, h2, h3, h4, h5, h6⟩
  · have hm := h1.m_le
    have hl := hasLeaf_ov (s := s) h2 hs hn
    by_cases hk : HasS m g s
    · obtain ⟨p, hp, hg⟩ := hk
      refine ⟨1, by omega, ?_, fun M X h2 => m_isKnown_y hq hn (by omega) h5 h1.2.1 h4 hp hg⟩
      rw [hl, (h3.1 p hp).2.2.2.2.2 s hg, if_neg (m1_nI (by omega))]; rfl
    · refine ⟨0, by omega, ?_, fun M X h2 => m_isKnown_n hq hn (by omega) h5 h1.2.1 h4 (by omega) hk⟩
      rw [hl, h3.2.2 s hs hk, if_pos rfl]; rfl
  · have hl := hasLeaf_ov (s := s) h2 hs hn
    refine ⟨1, by omega, ?_, fun M X h2 => m_isKnown_sp hq h5⟩
    rw [hl, h3.2.2.2.2 s hs, if_neg (m1_nI (by omega))]; rfl
theorem e_dep_loop {n N P a : Nat} {fm es hv : Int32} {cn sg pa fs sn lf : Nat → Int32} {h : Hp} {pr sd dp : Nat → Nat} {K : Int32 → Option Int32} (hn : n ≤ 64) (hN : N ≤ 2 * n + 1) (hov : ov n P a fm (nI N) es hv cn sg pa fs sn lf h = h) (hW : WK N pr sd dp) (h0 : pa 0 = (-1)) (hp : ∀ x, 0 < x → x < N → pa x = nI (pr x)) : ∀ (e k L w : Nat), k < N → dp k = e → L + e < N → e < w → lpG (fun _ _ => none) w (LT_depthOf_8 h a K) (nI L) (pa k) = K (nI (L + e))
  | 0, k, L, w, hk, he, hL, hw => by
    obtain ⟨w', rfl⟩ : ∃ w', w = w' + 1 := ⟨w - 1, by omega⟩
    have := WK_0 hW hk he
    subst this
    rw [lpG_s, LT_depthOf_8.eq_1, h0, if_pos rfl]; rfl
  | e + 1, k, L, w, hk, he, hL, hw => by
    obtain ⟨w', rfl⟩ : ∃ w', w = w' + 1 := ⟨w - 1, by omega⟩
    have k0 := WK_p hW (x := k) (by omega)
    have hw1 := hW.2.1 k k0 hk
    rw [lpG_s, LT_depthOf_8.eq_1, hp k k0 hk, if_neg (m1_nI (by omega)), gI_at (ov_hd hov) rfl, if_neg (nI_ge (show L < N by omega) (by omega)), h_pa hov hw1.1 hN hn, show nI L + 1 = nI (L + 1) from nI_add _ _]
    rw [e_dep_loop (K := K) hn hN hov hW h0 hp e (pr k) (L + 1) w' hw1.1 (by omega) (by omega) (by omega), show L + 1 + e = L + (e + 1) from by omega]
theorem e_dep {n N P a k : Nat} {fm es hv : Int32} {cn sg pa fs sn lf : Nat → Int32} {h : Hp} {pr sd dp : Nat → Nat} (hn : n ≤ 64) (hN : N ≤ 2 * n + 1) (hov : ov n P a fm (nI N) es hv cn sg pa fs sn lf h = h) (hW : WK N pr sd dp) (h0 : pa 0 = (-1)) (hp : ∀ x, 0 < x → x < N → pa x = nI (pr x)) (hk : k < N) : FT_depthOf h a (nI k) = some (nI (dp k)) := by
  have hd := hW.2.2 k hk
  unfold FT_depthOf
  rw [h_pa hov hk hN hn, jn_eq]
  try dsimp only
  rw [show (0 : Int32) = nI 0 from rfl, e_dep_loop hn hN hov hW h0 hp (dp k) k 0 fu hk rfl (by omega) (by show dp k < 100000; omega), Nat.zero_add]
section KNE
variable {Z n wd B : Nat} {h : Hp}
theorem p_knows (S : ST Z n wd B h) {p1 p2 p3 : Int32} : OPQ Z n wd B h (FA_knows h Z p1 p2 p3) (FM_knows h (Z + 97) p1 p2 p3) := by
  obtain ⟨wb, tb, lm, hs, wr, tr, nd, nu, nb, X, A, S, hom⟩ := S
  have hK := S.2.1.1
  have hX0 : upd X 20 0 0 = nI n := S.2.2.1.1
  obtain ⟨n0, n1, w0, w1, w2⟩ := S.1
  rcases et_cases p1 p2 with ⟨e, t, he, ht, rfl, rfl, k1, k2, k3⟩ | ⟨k1, k3⟩
  · have hT := S.tre (q := 4 * e + t) (by omega)
    rcases sg_cases hK (by omega) n1 p3 with ⟨s, hs', rfl, g1, g2⟩ | ⟨-, g1, g2⟩
    · obtain ⟨b, b1, b2, b3⟩ := hT.known n1 (by omega) hs'
      refine OPQ_of (m := fun h => FM_knows h (Z + 97) (nI e) (nI t) (nI s)) (r := nI b) (X' := upd X 20 0) (A' := A) S hom ?_ u20 (fun _ _ => rfl) ?_
      · unfold FA_knows
        rw [k1, Option.bind_some, jn_eq]
        try dsimp only
        rw [if_neg (by decide), k2, Option.bind_some, if_neg (by decide), gd_t hK.o, g1, Option.bind_some, if_neg (by decide), gd_t hK.o, e_treeOf hK he ht, Option.bind_some, ad_et he ht, gd_t hT.o, b2, Option.bind_some, e_oneIf b1, Option.bind_some]
      · show FM_knows _ _ _ _ _ = _
        unfold FM_knows
        rw [mp_20, k3, Option.bind_some, if_neg (by decide), mi_0, hX0, g2, Option.bind_some, if_neg (by decide), gd_t o_om, qet, b3, Option.bind_some, jn_eq]
        try dsimp only
        by_cases z : b = 0
        · subst z; rw [if_pos nI_0]; rfl
        · have : b = 1 := by omega
          subst this; rw [if_neg (by decide)]; rfl
    · refine OPQ_of (m := fun h => FM_knows h (Z + 97) (nI e) (nI t) p3) (X' := upd X 20 0) (A' := A) (r := (-3)) S hom ?_ u20 (fun _ _ => rfl) ?_
      · unfold FA_knows
        rw [k1, Option.bind_some, jn_eq]
        try dsimp only
        rw [if_neg (by decide), k2, Option.bind_some, if_neg (by decide), gd_t hK.o, g1, Option.bind_some, if_pos rfl]
      · show FM_knows _ _ _ _ _ = _
        unfold FM_knows
        rw [mp_20, k3, Option.bind_some, if_neg (by decide), mi_0, hX0, g2, Option.bind_some, if_pos rfl]
  · refine OPQ_of (m := fun h => FM_knows h (Z + 97) p1 p2 p3) (X' := upd X 20 0) (A' := A) (r := (-2)) S hom ?_ u20 (fun _ _ => rfl) ?_
    · unfold FA_knows
      rcases k1 with k1 | ⟨k1, k2⟩
      · rw [k1, Option.bind_some, jn_eq]
        try dsimp only
        rw [if_pos rfl]
      · rw [k1, Option.bind_some, jn_eq]
        try dsimp only
        rw [if_neg (by decide), k2, Option.bind_some, if_pos rfl]
    · show FM_knows _ _ _ _ _ = _
      unfold FM_knows
      rw [mp_20, k3, Option.bind_some, if_pos rfl]
theorem p_escape (S : ST Z n wd B h) {p1 p2 : Int32} : OPQ Z n wd B h (FA_escape h Z p1 p2) (FM_escape h (Z + 97) p1 p2) := by
  obtain ⟨wb, tb, lm, hs, wr, tr, nd, nu, nb, X, A, S, hom⟩ := S
  have hK := S.2.1.1
  obtain ⟨n0, n1, w0, w1, w2⟩ := S.1
  rcases et_cases p1 p2 with ⟨e, t, he, ht, rfl, rfl, k1, k2, k3⟩ | ⟨k1, k3⟩
  · have hT := S.tre (q := 4 * e + t) (by omega)
    have hTo := hT.o
    rcases hT with ⟨m, c, g, o, hv, es, cn, sg, pa, fs, sn, lf, t', h1, h2, h3, h4, h5, h6⟩ | ⟨u, d, hv, es, cn, sg, pa, fs, sn, lf, h1, h2, h3, h4, h5, h6⟩
    · have hm := h1.m_le
      have ho := h1.1.1
      have hG := h1.2.1
      obtain ⟨dp, hW⟩ := WK_cnt ho
      have hes : es = nI (2 * m) := (h3.1 (2 * m) (by omega)).2.2.2.2.1 hG.2.1
      have hno := m_nodeOf (M := Z + 97) (X := upd (upd X 20 0) 25 0) (h := h) (p := 2 * m) (by omega) n1 (by omega) hG h4 (by omega) (by rw [hG.2.1]; decide)
      rw [hG.2.1, show sI 1 = (-2) from rfl] at hno
      obtain ⟨A', r1, r2, -, -⟩ := m_wayUp (M := Z + 97) (X := upd X 20 0) (h := h) (k := 2 * m) (L := 0) (B := A) (by omega) (by omega) h4 (fun k hk => by have := ho k hk; omega) hW (by omega) (by omega) (fun _ _ => rfl)
      rw [Nat.zero_add] at r1
      refine OPQ_of (m := fun h => FM_escape h (Z + 97) (nI e) (nI t)) (r := nI (dp (2 * m))) (X' := upd (upd X 20 0) 25 (nI (dp (2 * m)))) (A' := A') S hom ?_ u25 r2 ?_
      · unfold FA_escape
        rw [k1, Option.bind_some, jn_eq]
        try dsimp only
        rw [if_neg (by decide), k2, Option.bind_some, if_neg (by decide), gd_t hK.o, e_treeOf hK he ht, Option.bind_some, ad_et he ht, gI_at (ov_hd h2) rfl, jn_eq]
        try dsimp only
        rw [if_pos rfl, gI_at (ov_hd h2) rfl, gd_t hTo, hes, e_dep n1 (by omega) h2 hW h3.2.1 (fun x x0 x1 => (h3.way (by omega) ho x0 x1).1) (by omega), Option.bind_some]
      · show FM_escape _ _ _ _ = _
        unfold FM_escape
        rw [mp_20, k3, Option.bind_some, if_neg (by decide), mr_fo, qet, ml_fo (by omega), h5, if_neg (by decide), mp_25, gd_t o_om, hno, Option.bind_some, gd_t o_om, m_placeOf (by omega) (by omega) h4 (by omega), Option.bind_some, gd_t o_om, show (0 : Int32) = nI 0 from rfl]
        rw [show upd X 20 (nI 0) = upd X 20 0 from rfl, r1, Option.bind_some, mi_25, updS]
    · refine OPQ_of (m := fun h => FM_escape h (Z + 97) (nI e) (nI t)) (X' := upd X 20 0) (A' := A) (r := (-1)) S hom ?_ u20 (fun _ _ => rfl) ?_
      · unfold FA_escape
        rw [k1, Option.bind_some, jn_eq]
        try dsimp only
        rw [if_neg (by decide), k2, Option.bind_some, if_neg (by decide), gd_t hK.o, e_treeOf hK he ht, Option.bind_some, ad_et he ht, gI_at (ov_hd h2) rfl, jn_eq]
        try dsimp only
        rw [if_neg (by decide)]
      · show FM_escape _ _ _ _ = _
        unfold FM_escape
        rw [mp_20, k3, Option.bind_some, if_neg (by decide), mr_fo, qet, ml_fo (by omega), h5, if_pos rfl]
  · refine OPQ_of (m := fun h => FM_escape h (Z + 97) p1 p2) (X' := upd X 20 0) (A' := A) (r := (-2)) S hom ?_ u20 (fun _ _ => rfl) ?_
    · unfold FA_escape
      rcases k1 with k1 | ⟨k1, k2⟩
      · rw [k1, Option.bind_some, jn_eq]
        try dsimp only
        rw [if_pos rfl]
      · rw [k1, Option.bind_some, jn_eq]
        try dsimp only
        rw [if_neg (by decide), k2, Option.bind_some, if_pos rfl]
    · show FM_escape _ _ _ _ = _
      unfold FM_escape
      rw [mp_20, k3, Option.bind_some, if_pos rfl]
end KNE
