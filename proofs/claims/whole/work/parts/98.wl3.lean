section WL3
variable {M q : Nat} {X : Nat → Int32} {A : Nat → Nat → Int32} {h : Hp}
theorem m_isWellCounted {n B m : Nat} {c g o t : Nat → Nat} (hq : q < 12) (hn : n ≤ 64) (hB : B < 2 ^ 27) (hI : CI n B m c g o) (hT : MT A q m c g o t) : FM_isWellCounted (om M X A h) M (nI q) = some 1 := by
  have hm := hI.m_le
  have ht : A 5 (129 * q) = nI (t 0) := (hT.2.1 0 (by omega)).2.1
  have ht0 := (hT.2.1 0 (by omega)).1
  have hl : nl g (2 * m + 1) = m + 1 := leaf_many hI.1 hI.2.1
  have key := m_wc_loop (M := M) (X := X) (h := h) (K := fun x5 x6 => if x5 = 0 then gd ((0 : Int32) = 0 ∨ (0 : Int32) = 1) (some 0) else gR (om M X A h) M 5 4 (fun a11 => ldI (om M X A h) a11 0 (nI q) (fun x12 => if ((2 * x6) - 1) = x12 then gd ((1 : Int32) = 0 ∨ (1 : Int32) = 1) (some 1) else gd ((0 : Int32) = 0 ∨ (0 : Int32) = 1) (some 0)))) hq hn (by omega) hI.1 (by have := hI.2.2.2; omega) hI.2.1 hT (2 * m + 1) 0 fu (by omega) (by show 2 * m + 1 < 100000; omega)
  unfold FM_isWellCounted
  rw [mr_at, ix0, ml_at (by omega), ht, jn_eq]
  try dsimp only
  rw [if_neg (nI_pos (by omega)), jn_eq]
  refine Eq.trans key ?_
  try dsimp only
  rw [if_neg (by decide), mr_ma, ml_ma hq, hT.1, hl, show (2 : Int32) * nI (m + 1) - 1 = nI (2 * m + 1) from by rw [show (2 : Int32) = nI 2 from rfl, pk_mul, show (1 : Int32) = nI 1 from rfl, pk_sub (by omega)]; congr 1, if_pos rfl, gd_t (Or.inr rfl)]
theorem m_ws_in {n : Nat} {u d dp : Nat → Nat} {K : Int32 → Option Int32} (hq : q < 12) (hn : n ≤ 64) (hT : MS A q n u d) (hW : WK (2 * n - 1) u d dp) : ∀ (e k L w : Nat), k < 2 * n - 1 → dp k = e → L + e < 2 * n - 1 → e + 1 < w → lpG (fun _ _ => none) w (LM_isWellSplayed_111 (om M X A h) M (nI q) K) (nI L) (nI k) = K (nI (L + e + 1))
  | 0, k, L, w, hk, he, hL, hw => by
    obtain ⟨w', rfl⟩ : ∃ w', w = w' + 2 := ⟨w - 2, by omega⟩
    have := WK_0 hW hk he
    subst this
    rw [lpG_s, LM_isWellSplayed_111.eq_1, if_neg (m1_nI (by omega)), mr_ma, ml_ma hq, hT.1, if_neg (nI_nlt (by omega) (by omega)), mr_up, ix, ml_up (by omega), show A 9 (129 * q + 0) = (-1) from hT.2.1, lpG_s, LM_isWellSplayed_111.eq_1, if_pos rfl, show nI L + 1 = nI (L + 0 + 1) from nI_add _ _]
  | e + 1, k, L, w, hk, he, hL, hw => by
    obtain ⟨w', rfl⟩ : ∃ w', w = w' + 1 := ⟨w - 1, by omega⟩
    have k0 := WK_p hW (x := k) (by omega)
    have hw1 := hW.2.1 k k0 hk
    rw [lpG_s, LM_isWellSplayed_111.eq_1, if_neg (m1_nI (by omega)), mr_ma, ml_ma hq, hT.1, if_neg (nI_nlt (by omega) (by omega)), mr_up, ix, ml_up (by omega), (hT.2.2.2 k k0 hk).1, show nI L + 1 = nI (L + 1) from nI_add _ _]
    rw [m_ws_in (K := K) hq hn hT hW e (u k) (L + 1) w' hw1.1 (by omega) (by omega) (by omega), show L + 1 + e + 1 = L + (e + 1) + 1 by omega]
theorem m_ws_loop {n : Nat} {u d dp : Nat → Nat} {K : Int32 → Option Int32} (hq : q < 12) (hn0 : 2 ≤ n) (hn : n ≤ 64) (hX : X 0 = nI n) (hS : SI n u d) (hT : MS A q n u d) (hW : WK (2 * n - 1) u d dp) : ∀ (k i w : Nat), i + k = 2 * n - 1 → k < w → lpG (fun _ _ => none) w (LM_isWellSplayed_22 (om M X A h) M (nI q) K) 1 (nI i) = K 1
  | 0, i, w, hk, hw => by
    obtain ⟨w', rfl⟩ : ∃ w', w = w' + 1 := ⟨w - 1, by omega⟩
    rw [lpG_s, LM_isWellSplayed_22.eq_1, mr_ma, ml_ma hq, hT.1, if_pos (nI_le (by omega) (by omega))]
  | k + 1, i, w, hk, hw => by
    obtain ⟨w', rfl⟩ : ∃ w', w = w' + 1 := ⟨w - 1, by omega⟩
    have hi : i < 2 * n - 1 := by omega
    have ih := m_ws_loop (K := K) hq hn0 hn hX hS hT hW k (i + 1) w' (by omega) (by omega)
    have hd := hW.2.2 i hi
    have hin := m_ws_in (M := M) (X := X) (h := h) (K := fun x22 => gR (om M X A h) M 5 4 (fun a27 => ldI (om M X A h) a27 0 (nI q) (fun x28 => if x28 < x22 then lpG (fun _ _ => none) w' (LM_isWellSplayed_22 (om M X A h) M (nI q) K) 0 (nI (i + 1)) else lpG (fun _ _ => none) w' (LM_isWellSplayed_22 (om M X A h) M (nI q) K) 1 (nI (i + 1))))) hq hn hT hW (dp i) i 0 fu hi rfl (by omega) (by show dp i + 1 < 100000; omega)
    have fin : lpG (fun _ _ => none) fu (LM_isWellSplayed_111 (om M X A h) M (nI q) (fun x22 => gR (om M X A h) M 5 4 (fun a27 => ldI (om M X A h) a27 0 (nI q) (fun x28 => if x28 < x22 then lpG (fun _ _ => none) w' (LM_isWellSplayed_22 (om M X A h) M (nI q) K) 0 (nI (i + 1)) else lpG (fun _ _ => none) w' (LM_isWellSplayed_22 (om M X A h) M (nI q) K) 1 (nI (i + 1)))))) 0 (nI i) = K 1 := by
      refine Eq.trans hin ?_
      try dsimp only
      rw [mr_ma, ml_ma hq, hT.1, if_neg (nI_nlt (by omega) (by omega))]
      exact ih
    have chd : ∀ b, b < 2 → ∃ r : Int32, FM_child (om M X A h) M (nI q) (nI i) (nI b) = some r ∧ (r = (-1) ↔ n - 1 ≤ i) := fun b hb => by
      by_cases z : i < n - 1
      · obtain ⟨x, x0, x1, x2, x3⟩ := hS.2.2.1 i z b hb
        have hc := m_child (M := M) (X := X) (h := h) hq hn hS hT x0 x1
        rw [x2, x3] at hc
        exact ⟨_, hc, ⟨fun e => absurd e (m1_nI (by omega)), fun e => by omega⟩⟩
      · exact ⟨_, m_child_no hq (by omega) hn hS hT (by omega) (by omega), ⟨fun _ => by omega, fun _ => rfl⟩⟩
    obtain ⟨r0, c0, e0⟩ := chd 0 (by omega)
    obtain ⟨r1, c1, e1⟩ := chd 1 (by omega)
    rw [lpG_s, LM_isWellSplayed_22.eq_1, mr_ma, ml_ma hq, hT.1, if_neg (nI_ge hi (by omega)), gd_t o_om, show FM_child (om M X A h) M (nI q) (nI i) 0 = _ from c0, Option.bind_some]
    simp only [jn_eq]
    have n10 : ((1 : Int32) = 0) = False := eq_false (by decide)
    rw [show nI i + 1 = nI (i + 1) from nI_add _ _]
    by_cases z : n - 1 ≤ i
    · have hle : nI (n - 1) ≤ nI i := nI_le z (by omega)
      rw [if_pos (e0.mpr z), gd_t o_om, show FM_child (om M X A h) M (nI q) (nI i) 1 = _ from c1, Option.bind_some, if_pos (e1.mpr z)]
      simp only [n10, if_false]
      rw [mi_0, hX, show nI n - 1 = nI (n - 1) from pk_sub (a := n) (b := 1) (by omega), if_pos hle]
      simp only [if_true]
      exact fin
    · have hle : ¬ nI (n - 1) ≤ nI i := nI_ge (by omega) (by omega)
      rw [if_neg (fun e => z (e0.mp e)), gd_t o_om, show FM_child (om M X A h) M (nI q) (nI i) 1 = _ from c1, Option.bind_some, if_neg (fun e => z (e1.mp e))]
      simp only [n10, if_false]
      rw [mi_0, hX, show nI n - 1 = nI (n - 1) from pk_sub (a := n) (b := 1) (by omega), if_neg hle]
      simp only [if_true]
      exact fin
theorem m_isWellSplayed {n : Nat} {u d : Nat → Nat} (hq : q < 12) (hn0 : 2 ≤ n) (hn : n ≤ 64) (hX : X 0 = nI n) (hS : SI n u d) (hT : MS A q n u d) : FM_isWellSplayed (om M X A h) M (nI q) = some 1 := by
  obtain ⟨dp, hW⟩ := WK_spl hS
  have key := m_ws_loop (M := M) (h := h) (K := fun x5 => gd (x5 = 0 ∨ x5 = 1) (some x5)) hq hn0 hn hX hS hT hW (2 * n - 1) 0 fu (by omega) (by show 2 * n - 1 < 100000; omega)
  unfold FM_isWellSplayed
  rw [mr_up, ix0, ml_up (by omega), hT.2.1, jn_eq]
  try dsimp only
  rw [if_pos rfl, jn_eq]
  refine Eq.trans key ?_
  rw [gd_t (Or.inr rfl)]
end WL3
theorem TR.well {n P B a q : Nat} {h : Hp} {A : Nat → Nat → Int32} (hT : TR n P B a q h A) (hn0 : 2 ≤ n) (hn : n ≤ 64) (hq : q < 12) (hB : B < 2 ^ 27) : FT_isWell h a = some 1 ∧ ∀ M X h2, X 0 = nI n → (if A 1 q = 0 then FM_isWellCounted (om M X A h2) M (nI q) else FM_isWellSplayed (om M X A h2) M (nI q)) = some 1 := by
  rcases hT with ⟨m, c, g, o, hv, es, cn, sg, pa, fs, sn, lf, t, h1, h2, h3, h4, h5, h6⟩ | ⟨u, d, hv, es, cn, sg, pa, fs, sn, lf, h1, h2, h3, h4, h5, h6⟩
  · have hm := h1.m_le
    have ho := h1.1.1
    have hG := h1.2.1
    have hcb : ∀ v, v < 2 * m + 1 → c v < 2 ^ 29 := fun v hv => by
      have := h1.1.bd hv
      have := h1.2.2.2
      omega
    refine ⟨e_isWell hn (by omega) h2 (fun v hv' => ?_) (fun v hv' => ?_) (fun _ v hv' => ⟨?_, ?_⟩) (fun s hs => ?_), fun M X h2' hX => by rw [if_pos h5]; exact m_isWellCounted hq hn hB h1 h4⟩
    · by_cases z : g v = 0
      · obtain ⟨k, k1, k2⟩ := (hG.1 v hv').mp z
        have := (h3.1 v hv').2.2.1 k k1 k2
        exact Or.inr ⟨2 * k + 1, 2 * k + 2, this.1, this.2.1, by omega, by omega, this.2.2.1, this.2.2.2⟩
      · exact Or.inl ((h3.1 v hv').2.2.2.1 z).1
    · rw [(h3.1 v hv').2.1]
      have hgl := hG.lt hv'
      have hl := (h3.1 v hv').2.2.2.2.2
      match hgv : g v, hgl with
      | 0, _ => exact Or.inl (by decide)
      | 1, _ => exact Or.inl (by decide)
      | s + 2, e => exact Or.inr ⟨s, by omega, rfl, hl s hgv⟩
    · by_cases z : v = 0
      · exact Or.inl z
      · right
        rw [(h3.1 v hv').1, (h3.1 (v - 1) (by omega)).1]
        have := h1.1.2.2.2.1 (v - 1) v (by omega) hv'
        have hle : c v ≤ c (v - 1) := by
          rcases this with y | ⟨y, _⟩
          · exact y
          · omega
        exact nI_le hle (by have := hcb (v - 1) (by omega); omega)
    · by_cases z : g v = 0
      · obtain ⟨k, k1, k2⟩ := (hG.1 v hv').mp z
        have := (h3.1 v hv').2.2.1 k k1 k2
        refine Or.inr ⟨2 * k + 1, 2 * k + 2, this.1, this.2.1, by omega, by omega, ?_⟩
        have hsum := h1.1.2.2.1 k k1
        rw [k2, if_neg (by omega), Nat.add_zero] at hsum
        rw [(h3.1 v hv').1, (h3.1 (2 * k + 1) (by omega)).1, (h3.1 (2 * k + 2) (by omega)).1, nI_add, hsum]
      · exact Or.inl ((h3.1 v hv').2.2.2.1 z).1
    · by_cases z : HasS m g s
      · obtain ⟨p, hp, hg⟩ := z
        refine Or.inr ⟨p, by omega, (h3.1 p hp).2.2.2.2.2 s hg, ?_⟩
        rw [(h3.1 p hp).2.1, hg]; rfl
      · exact Or.inl (h3.2.2 s hs z)
  · refine ⟨e_isWell hn (by omega) h2 (fun v hv' => ?_) (fun v hv' => ?_) (fun e => absurd e (by decide)) (fun s hs => ?_), fun M X h2' hX => by rw [if_neg (by rw [h5]; decide)]; exact m_isWellSplayed hq hn0 hn hX h1 h4⟩
    · by_cases z : v < n - 1
      · obtain ⟨x, x0, x1, x2, x3⟩ := h1.2.2.1 v z 0 (by omega)
        obtain ⟨y, y0, y1, y2, y3⟩ := h1.2.2.1 v z 1 (by omega)
        have hx := h3.2.2.1 x x0 x1
        have hy := h3.2.2.1 y y0 y1
        rw [x2] at hx
        rw [y2] at hy
        exact Or.inr ⟨x, y, hx.2.1 x3, hy.2.2 y3, by omega, by omega, hx.1, hy.1⟩
      · exact Or.inl (h3.2.2.2.1 v (by omega) hv').1
    · rw [(h3.1 v hv').2]
      by_cases z : v < n - 1
      · rw [if_pos z]; exact Or.inl (by decide)
      · rw [if_neg z]
        refine Or.inr ⟨v - (n - 1), by omega, rfl, ?_⟩
        rw [h3.2.2.2.2 _ (by omega), show n - 1 + (v - (n - 1)) = v by omega]
    · refine Or.inr ⟨n - 1 + s, by omega, h3.2.2.2.2 s hs, ?_⟩
      rw [(h3.1 (n - 1 + s) (by omega)).2, if_neg (by omega), show n - 1 + s - (n - 1) = s by omega]
theorem p_well {Z n wd B : Nat} {h : Hp} (S : ST Z n wd B h) (hB : B < 2 ^ 27) {p1 p2 : Int32} : OPQ Z n wd B h (FA_well h Z p1 p2) (FM_well h (Z + 97) p1 p2) := by
  obtain ⟨wb, tb, lm, hs, wr, tr, nd, nu, nb, X, A, S, hom⟩ := S
  have hK := S.2.1.1
  have hX0 : upd X 20 0 0 = nI n := S.2.2.1.1
  obtain ⟨n0, n1, w0, w1, w2⟩ := S.1
  rcases et_cases p1 p2 with ⟨e, t, he, ht, rfl, rfl, k1, k2, k3⟩ | ⟨k1, k3⟩
  · have hT := S.tre (q := 4 * e + t) (by omega)
    obtain ⟨q1, q2⟩ := hT.well n0 n1 (by omega) hB
    have q2' := q2 (Z + 97) (upd X 20 0) h hX0
    refine OPQ_of (m := fun h => FM_well h (Z + 97) (nI e) (nI t)) (r := 1) (X' := upd X 20 0) (A' := A) S hom ?_ u20 (fun _ _ => rfl) ?_
    · unfold FA_well
      rw [k1, Option.bind_some, jn_eq]
      try dsimp only
      rw [jn_eq]
      try dsimp only
      rw [if_neg (by decide), k2, Option.bind_some, if_neg (by decide), gd_t hK.o, e_treeOf hK he ht, Option.bind_some, ad_et he ht, gd_t hT.o, q1, Option.bind_some, show (1 : Int32) = nI 1 from rfl, e_oneIf (by omega), Option.bind_some]
    · show FM_well _ _ _ _ = _
      unfold FM_well
      rw [mp_20, k3, Option.bind_some, if_neg (by decide), mr_fo, qet, ml_fo (by omega)]
      simp only [jn_eq]
      by_cases z : A (1 : Nat) (4 * e + t) = 0
      · rw [if_pos z] at q2'
        rw [if_pos z, gd_t o_om, q2', Option.bind_some, if_neg (by decide)]
      · rw [if_neg z] at q2'
        rw [if_neg z, gd_t o_om, q2', Option.bind_some, if_neg (by decide)]
  · refine OPQ_of (m := fun h => FM_well h (Z + 97) p1 p2) (X' := upd X 20 0) (A' := A) (r := (-2)) S hom ?_ u20 (fun _ _ => rfl) ?_
    · unfold FA_well
      rcases k1 with k1 | ⟨k1, k2⟩
      · rw [k1, Option.bind_some, jn_eq]
        try dsimp only
        rw [jn_eq]
        try dsimp only
        rw [if_pos rfl]
      · rw [k1, Option.bind_some, jn_eq]
        try dsimp only
        rw [jn_eq]
        try dsimp only
        rw [if_neg (by decide), k2, Option.bind_some, if_pos rfl]
    · show FM_well _ _ _ _ = _
      unfold FM_well
      rw [mp_20, k3, Option.bind_some, if_pos rfl]
