/-! THE LAW -/
theorem ldS_at {β : Type} {xs : Nat → Int32} {L j : Nat} {K : Int32 → Option β} (hj : j < L) (hL : L ≤ 2561) : ldS xs L (nI j) K = K (xs j) := by
  unfold ldS
  rw [if_pos (inN hj (by omega)), clN hj (by omega)]
theorem ld1 {β : Type} {xs : Nat → Int32} {L j : Nat} {K : Int32 → Option β} (hj : j + 4 < L) (hL : L ≤ 2561) : ldS xs L (nI j + 1) K = K (xs (j + 1)) := by rw [show nI j + 1 = nI (j + 1) from nI_add _ _]; exact ldS_at (by omega) hL
theorem ld2 {β : Type} {xs : Nat → Int32} {L j : Nat} {K : Int32 → Option β} (hj : j + 4 < L) (hL : L ≤ 2561) : ldS xs L (nI j + 2) K = K (xs (j + 2)) := by rw [show nI j + 2 = nI (j + 2) from nI_add _ _]; exact ldS_at (by omega) hL
theorem ld3 {β : Type} {xs : Nat → Int32} {L j : Nat} {K : Int32 → Option β} (hj : j + 4 < L) (hL : L ≤ 2561) : ldS xs L (nI j + 3) K = K (xs (j + 3)) := by rw [show nI j + 3 = nI (j + 3) from nI_add _ _]; exact ldS_at (by omega) hL
theorem ld4 {β : Type} {xs : Nat → Int32} {L j : Nat} {K : Int32 → Option β} (hj : j + 4 < L) (hL : L ≤ 2561) : ldS xs L (nI j + 4) K = K (xs (j + 4)) := by rw [show nI j + 4 = nI (j + 4) from nI_add _ _]; exact ldS_at (by omega) hL
theorem law_end {L j : Nat} (hL : L ≤ 2561) (hj : j < 4000) : (Int32.ofNat L - 5) < nI j ↔ L < j + 5 := by
  rw [Int32.lt_iff_toInt_lt, show Int32.ofNat L - 5 = nI L - nI 5 from rfl, pk_sub_toInt (by omega) (by omega), nI_toInt (by omega)]
  omega
theorem ST.o {Z n wd B : Nat} {h : Hp} (S : ST Z n wd B h) : isO h Z 4 = true := by
  obtain ⟨wb, tb, lm, hs, wr, tr, nd, nu, nb, X, A, S, hom⟩ := S
  exact S.2.1.1.o
theorem ST.mono {Z n wd B B' : Nat} {h : Hp} (S : ST Z n wd B h) (hB : B ≤ B') : ST Z n wd B' h := by
  obtain ⟨wb, tb, lm, hs, wr, tr, nd, nu, nb, X, A, S, hom⟩ := S
  exact ⟨wb, tb, lm, hs, wr, tr, nd, nu, nb, X, A, S.mono hB, hom⟩
theorem ldL_at {β : Type} {h : Hp} {a m : Nat} {f : Nat → Int64} {K : Int64 → Option β} (e : h a = some (.inl (2, m, .inr (.inl f)))) (hm : 0 < m) : ldL h a 2 0 K = K (f 0) := by
  simp only [ldL, gL, e, if_true]
  rw [if_pos ⟨by decide, by show (0 : Int) < m; omega⟩]
  rfl
theorem lg_self (x : Int64) : lg_cmp x x = 0 := by
  simp [lg_cmp]
set_option maxRecDepth 20000 in
set_option maxHeartbeats 4000000 in
/-- one call of the law, whichever it is -/
theorem law_step {Z L j n wd B k12 n13 z14 : Nat} {xs : Nat → Int32} {r2 r4 : Hp × Nat} {h : Hp} (hr2 : r2.2 = Z + 97) (hr4 : r4.2 = Z + 113) (hL : L ≤ 2561) (hj : j + 4 < L) (S : ST Z n wd B h) (hB : B < 2 ^ 27) (hk : k12 + 1 ≤ 601024) (hn : n13 + 6 ≤ 7293000) : ∃ h' k' n' z', (∀ K rec, LL_law_33 Z L xs r2 r4 K rec h k12 n13 z14 (nI j) = rec h' k' n' z' (nI (j + 5))) ∧ ST Z n wd (B + 1) h' ∧ k' ≤ k12 + 1 ∧ n' ≤ n13 + 6 := by
  have hlt : ¬ (Int32.ofNat L - 5) < nI j := fun e => by
    have := (law_end hL (by omega)).mp e
    omega
  have hkn : k12 ≤ 601024 ∧ n13 ≤ 7293000 := ⟨by omega, by omega⟩
  have hkn1 : k12 + 1 ≤ 601024 ∧ n13 + 6 ≤ 7293000 := ⟨hk, hn⟩
  have hso := S.o
  have h5 : nI j + 5 = nI (j + 5) := nI_add _ _
  by_cases e0 : ((xs j &&& 31)).toInt = 0
  · obtain ⟨h1, r, a1, a2, h2, a3, a4⟩ := p_form (p1 := xs (j + 1)) (p2 := xs (j + 2)) S
    refine ⟨h2, k12, n13, z14, fun K rec => ?_, a4, by omega, by omega⟩
    rw [LL_law_33.eq_1, if_neg hlt, ldS_at (show j < L by omega) hL, jn_eq, hr2, hr4, h5]
    try dsimp only
    rw [if_pos e0, ld1 hj hL, ld2 hj hL, gd_t hkn, gd_t hso, a1, Option.bind_some]
    try dsimp only
    rw [ld1 hj hL, ld2 hj hL, gd_t hkn, gd_t a2, show FM_form h1 (Z + 97) (xs (j + 1)) (xs (j + 2)) = _ from a3, Option.bind_some, if_pos rfl]
  by_cases e1 : ((xs j &&& 31)).toInt = 1
  · obtain ⟨h1, r, a1, a2, h2, a3, a4⟩ := p_limit (p := xs (j + 1)) S
    refine ⟨h2, k12, n13, z14, fun K rec => ?_, a4, by omega, by omega⟩
    rw [LL_law_33.eq_1, if_neg hlt, ldS_at (show j < L by omega) hL, jn_eq, hr2, hr4, h5]
    try dsimp only
    rw [if_neg e0, if_pos e1, ld1 hj hL, gd_t hkn, gd_t hso, a1, Option.bind_some]
    try dsimp only
    rw [ld1 hj hL, gd_t hkn, gd_t a2, show FM_limit h1 (Z + 97) (xs (j + 1)) = _ from a3, Option.bind_some, if_pos rfl]
  by_cases e2 : ((xs j &&& 31)).toInt = 2
  · obtain ⟨h1, r, a1, a2, h2, a3, a4⟩ := p_put (p1 := xs (j + 1)) (p2 := xs (j + 2)) S hB
    refine ⟨h2, k12, n13, z14, fun K rec => ?_, a4, by omega, by omega⟩
    rw [LL_law_33.eq_1, if_neg hlt, ldS_at (show j < L by omega) hL, jn_eq, hr2, hr4, h5]
    try dsimp only
    rw [if_neg e0, if_neg e1, if_pos e2, ld1 hj hL, ld2 hj hL, gd_t hkn, gd_t hso, a1, Option.bind_some]
    try dsimp only
    rw [ld1 hj hL, ld2 hj hL, gd_t hkn, gd_t a2, show FM_put h1 (Z + 97) (xs (j + 1)) (xs (j + 2)) = _ from a3, Option.bind_some, if_pos rfl]
  by_cases e3 : ((xs j &&& 31)).toInt = 3
  · obtain ⟨a2, r, a1, h2, a3, a4⟩ := p_bits  S
    refine ⟨h2, k12, n13, z14, fun K rec => ?_, a4, by omega, by omega⟩
    rw [LL_law_33.eq_1, if_neg hlt, ldS_at (show j < L by omega) hL, jn_eq, hr2, hr4, h5]
    try dsimp only
    rw [if_neg e0, if_neg e1, if_neg e2, if_pos e3, gd_t hkn, gd_t hso, a1, Option.bind_some, gd_t hkn, gd_t a2, a3, Option.bind_some, if_pos rfl]
  by_cases e4 : ((xs j &&& 31)).toInt = 4
  · obtain ⟨a2, r, a1, h2, a3, a4⟩ := p_bit (p := xs (j + 1)) S
    refine ⟨h2, k12, n13, z14, fun K rec => ?_, a4, by omega, by omega⟩
    rw [LL_law_33.eq_1, if_neg hlt, ldS_at (show j < L by omega) hL, jn_eq, hr2, hr4, h5]
    try dsimp only
    rw [if_neg e0, if_neg e1, if_neg e2, if_neg e3, if_pos e4, ld1 hj hL, gd_t hkn, gd_t hso, a1, Option.bind_some, ld1 hj hL, gd_t hkn, gd_t a2, a3, Option.bind_some, if_pos rfl]
  by_cases e5 : ((xs j &&& 31)).toInt = 5
  · obtain ⟨h1, r, a1, a2, h2, a3, a4⟩ := p_drop  S
    refine ⟨h2, k12, n13, z14, fun K rec => ?_, a4, by omega, by omega⟩
    rw [LL_law_33.eq_1, if_neg hlt, ldS_at (show j < L by omega) hL, jn_eq, hr2, hr4, h5]
    try dsimp only
    rw [if_neg e0, if_neg e1, if_neg e2, if_neg e3, if_neg e4, if_pos e5, gd_t hkn, gd_t hso, a1, Option.bind_some]
    try dsimp only
    rw [gd_t hkn, gd_t a2, show FM_drop h1 (Z + 97)  = _ from a3, Option.bind_some, if_pos rfl]
  by_cases e6 : ((xs j &&& 31)).toInt = 6
  · by_cases zb : xs (j + 2) = 0
    · obtain ⟨h1, r, a1, a2, h2, a3, a4⟩ := p_get (p1 := xs (j + 1)) (b := 0) S hB (by omega)
      refine ⟨h2, k12, n13, z14, fun K rec => ?_, a4, by omega, by omega⟩
      rw [LL_law_33.eq_1, if_neg hlt, ldS_at (show j < L by omega) hL, jn_eq, hr2, hr4, h5]
      try dsimp only
      rw [if_neg e0, if_neg e1, if_neg e2, if_neg e3, if_neg e4, if_neg e5, if_pos e6, ld1 hj hL, ld2 hj hL, jn_eq]
      try dsimp only
      rw [if_pos zb, gd_t hkn, gd_t hso, show FA_get h Z (xs (j + 1)) 0 = _ from a1, Option.bind_some]
      try dsimp only
      rw [ld1 hj hL, ld2 hj hL, jn_eq]
      try dsimp only
      rw [if_pos zb, gd_t hkn, gd_t a2, show FM_get h1 (Z + 97) (xs (j + 1)) 0 = _ from a3, Option.bind_some, if_pos rfl]
    · obtain ⟨h1, r, a1, a2, h2, a3, a4⟩ := p_get (p1 := xs (j + 1)) (b := 1) S hB (by omega)
      refine ⟨h2, k12, n13, z14, fun K rec => ?_, a4, by omega, by omega⟩
      rw [LL_law_33.eq_1, if_neg hlt, ldS_at (show j < L by omega) hL, jn_eq, hr2, hr4, h5]
      try dsimp only
      rw [if_neg e0, if_neg e1, if_neg e2, if_neg e3, if_neg e4, if_neg e5, if_pos e6, ld1 hj hL, ld2 hj hL, jn_eq]
      try dsimp only
      rw [if_neg zb, gd_t hkn, gd_t hso, show FA_get h Z (xs (j + 1)) 1 = _ from a1, Option.bind_some]
      try dsimp only
      rw [ld1 hj hL, ld2 hj hL, jn_eq]
      try dsimp only
      rw [if_neg zb, gd_t hkn, gd_t a2, show FM_get h1 (Z + 97) (xs (j + 1)) 1 = _ from a3, Option.bind_some, if_pos rfl]
  by_cases e7 : ((xs j &&& 31)).toInt = 7
  · obtain ⟨h1, r, a1, a2, h2, a3, a4⟩ := p_pull (p1 := xs (j + 1)) S hB
    refine ⟨h2, k12, n13, z14, fun K rec => ?_, a4, by omega, by omega⟩
    rw [LL_law_33.eq_1, if_neg hlt, ldS_at (show j < L by omega) hL, jn_eq, hr2, hr4, h5]
    try dsimp only
    rw [if_neg e0, if_neg e1, if_neg e2, if_neg e3, if_neg e4, if_neg e5, if_neg e6, if_pos e7, ld1 hj hL, gd_t hkn, gd_t hso, a1, Option.bind_some]
    try dsimp only
    rw [ld1 hj hL, gd_t hkn, gd_t a2, show FM_pull h1 (Z + 97) (xs (j + 1)) = _ from a3, Option.bind_some, if_pos rfl]
  by_cases e8 : ((xs j &&& 31)).toInt = 8
  · obtain ⟨a2, r, a1, h2, a3, a4⟩ := p_pulled  S
    refine ⟨h2, k12, n13, z14, fun K rec => ?_, a4, by omega, by omega⟩
    rw [LL_law_33.eq_1, if_neg hlt, ldS_at (show j < L by omega) hL, jn_eq, hr2, hr4, h5]
    try dsimp only
    rw [if_neg e0, if_neg e1, if_neg e2, if_neg e3, if_neg e4, if_neg e5, if_neg e6, if_neg e7, if_pos e8, gd_t hkn, gd_t hso, a1, Option.bind_some, gd_t hkn, gd_t a2, a3, Option.bind_some, if_pos rfl]
  by_cases e9 : ((xs j &&& 31)).toInt = 9
  · obtain ⟨h1, r, a1, a2, h2, a3, a4⟩ := p_cost (p1 := xs (j + 1)) (p2 := xs (j + 2)) (p3 := xs (j + 3)) S
    refine ⟨h2, k12, n13, z14, fun K rec => ?_, a4, by omega, by omega⟩
    rw [LL_law_33.eq_1, if_neg hlt, ldS_at (show j < L by omega) hL, jn_eq, hr2, hr4, h5]
    try dsimp only
    rw [if_neg e0, if_neg e1, if_neg e2, if_neg e3, if_neg e4, if_neg e5, if_neg e6, if_neg e7, if_neg e8, if_pos e9, ld1 hj hL, ld2 hj hL, ld3 hj hL, gd_t hkn, gd_t hso, a1, Option.bind_some]
    try dsimp only
    rw [ld1 hj hL, ld2 hj hL, ld3 hj hL, gd_t hkn, gd_t a2, show FM_cost h1 (Z + 97) (xs (j + 1)) (xs (j + 2)) (xs (j + 3)) = _ from a3, Option.bind_some, if_pos rfl]
  by_cases e10 : ((xs j &&& 31)).toInt = 10
  · obtain ⟨h1, r, a1, a2, h2, a3, a4⟩ := p_code (p1 := xs (j + 1)) (p2 := xs (j + 2)) (p3 := xs (j + 3)) (p4 := xs (j + 4)) S
    refine ⟨h2, k12, n13, z14, fun K rec => ?_, a4, by omega, by omega⟩
    rw [LL_law_33.eq_1, if_neg hlt, ldS_at (show j < L by omega) hL, jn_eq, hr2, hr4, h5]
    try dsimp only
    rw [if_neg e0, if_neg e1, if_neg e2, if_neg e3, if_neg e4, if_neg e5, if_neg e6, if_neg e7, if_neg e8, if_neg e9, if_pos e10, ld1 hj hL, ld2 hj hL, ld3 hj hL, ld4 hj hL, gd_t hkn, gd_t hso, a1, Option.bind_some]
    try dsimp only
    rw [ld1 hj hL, ld2 hj hL, ld3 hj hL, ld4 hj hL, gd_t hkn, gd_t a2, show FM_code h1 (Z + 97) (xs (j + 1)) (xs (j + 2)) (xs (j + 3)) (xs (j + 4)) = _ from a3, Option.bind_some, if_pos rfl]
  by_cases e11 : ((xs j &&& 31)).toInt = 11
  · obtain ⟨a2, r, a1, h2, a3, a4⟩ := p_knows (p1 := xs (j + 1)) (p2 := xs (j + 2)) (p3 := xs (j + 3)) S
    refine ⟨h2, k12, n13, z14, fun K rec => ?_, a4, by omega, by omega⟩
    rw [LL_law_33.eq_1, if_neg hlt, ldS_at (show j < L by omega) hL, jn_eq, hr2, hr4, h5]
    try dsimp only
    rw [if_neg e0, if_neg e1, if_neg e2, if_neg e3, if_neg e4, if_neg e5, if_neg e6, if_neg e7, if_neg e8, if_neg e9, if_neg e10, if_pos e11, ld1 hj hL, ld2 hj hL, ld3 hj hL, gd_t hkn, gd_t hso, a1, Option.bind_some, ld1 hj hL, ld2 hj hL, ld3 hj hL, gd_t hkn, gd_t a2, a3, Option.bind_some, if_pos rfl]
  by_cases e12 : ((xs j &&& 31)).toInt = 12
  · obtain ⟨a2, r, a1, h2, a3, a4⟩ := p_escape (p1 := xs (j + 1)) (p2 := xs (j + 2)) S
    refine ⟨h2, k12, n13, z14, fun K rec => ?_, a4, by omega, by omega⟩
    rw [LL_law_33.eq_1, if_neg hlt, ldS_at (show j < L by omega) hL, jn_eq, hr2, hr4, h5]
    try dsimp only
    rw [if_neg e0, if_neg e1, if_neg e2, if_neg e3, if_neg e4, if_neg e5, if_neg e6, if_neg e7, if_neg e8, if_neg e9, if_neg e10, if_neg e11, if_pos e12, ld1 hj hL, ld2 hj hL, gd_t hkn, gd_t hso, a1, Option.bind_some, ld1 hj hL, ld2 hj hL, gd_t hkn, gd_t a2, a3, Option.bind_some, if_pos rfl]
  by_cases e13 : ((xs j &&& 31)).toInt = 13
  · obtain ⟨a2, r, a1, h2, a3, a4⟩ := p_halved (p1 := xs (j + 1)) (p2 := xs (j + 2)) S
    refine ⟨h2, k12, n13, z14, fun K rec => ?_, a4, by omega, by omega⟩
    rw [LL_law_33.eq_1, if_neg hlt, ldS_at (show j < L by omega) hL, jn_eq, hr2, hr4, h5]
    try dsimp only
    rw [if_neg e0, if_neg e1, if_neg e2, if_neg e3, if_neg e4, if_neg e5, if_neg e6, if_neg e7, if_neg e8, if_neg e9, if_neg e10, if_neg e11, if_neg e12, if_pos e13, ld1 hj hL, ld2 hj hL, gd_t hkn, gd_t hso, a1, Option.bind_some, ld1 hj hL, ld2 hj hL, gd_t hkn, gd_t a2, a3, Option.bind_some, if_pos rfl]
  by_cases e14 : ((xs j &&& 31)).toInt = 14
  · obtain ⟨a2, r, a1, h2, a3, a4⟩ := p_nodes (p1 := xs (j + 1)) (p2 := xs (j + 2)) S
    refine ⟨h2, k12, n13, z14, fun K rec => ?_, a4, by omega, by omega⟩
    rw [LL_law_33.eq_1, if_neg hlt, ldS_at (show j < L by omega) hL, jn_eq, hr2, hr4, h5]
    try dsimp only
    rw [if_neg e0, if_neg e1, if_neg e2, if_neg e3, if_neg e4, if_neg e5, if_neg e6, if_neg e7, if_neg e8, if_neg e9, if_neg e10, if_neg e11, if_neg e12, if_neg e13, if_pos e14, ld1 hj hL, ld2 hj hL, gd_t hkn, gd_t hso, a1, Option.bind_some, ld1 hj hL, ld2 hj hL, gd_t hkn, gd_t a2, a3, Option.bind_some, if_pos rfl]
  by_cases e15 : ((xs j &&& 31)).toInt = 15
  · obtain ⟨h1, z1, r, a1, a2, h2, v, a3, a4, a5, a6, a7⟩ := p_node (p1 := xs (j + 1)) (p2 := xs (j + 2)) (p3 := xs (j + 3)) (p4 := xs (j + 4)) S z14
    refine ⟨h2, k12 + 1, n13 + 6, z1, fun K rec => ?_, a6, by omega, by omega⟩
    rw [LL_law_33.eq_1, if_neg hlt, ldS_at (show j < L by omega) hL, jn_eq, hr2, hr4, h5]
    try dsimp only
    rw [if_neg e0, if_neg e1, if_neg e2, if_neg e3, if_neg e4, if_neg e5, if_neg e6, if_neg e7, if_neg e8, if_neg e9, if_neg e10, if_neg e11, if_neg e12, if_neg e13, if_neg e14, if_pos e15, ld1 hj hL, ld2 hj hL, ld3 hj hL, ld4 hj hL, gd_t hkn1, a1, Option.bind_some]
    try dsimp only
    rw [ld1 hj hL, ld2 hj hL, ld3 hj hL, ld4 hj hL, gd_t hkn1, gd_t a2, a3, Option.bind_some]
    try dsimp only
    rw [gd_t hkn1, gd_t a4, a5, Option.bind_some, if_pos rfl, jn_eq]
    try dsimp only
    by_cases z : r = 0
    · obtain ⟨f, f1, f2⟩ := a7 z
      rw [if_pos z, ldL_at f1 (by omega), f2, lg_self, if_pos rfl]
    · rw [if_neg z]
  by_cases e16 : ((xs j &&& 31)).toInt = 16
  · obtain ⟨a2, r, a1, h2, a3, a4⟩ := p_well (p1 := xs (j + 1)) (p2 := xs (j + 2)) S hB
    refine ⟨h2, k12, n13, z14, fun K rec => ?_, a4, by omega, by omega⟩
    rw [LL_law_33.eq_1, if_neg hlt, ldS_at (show j < L by omega) hL, jn_eq, hr2, hr4, h5]
    try dsimp only
    rw [if_neg e0, if_neg e1, if_neg e2, if_neg e3, if_neg e4, if_neg e5, if_neg e6, if_neg e7, if_neg e8, if_neg e9, if_neg e10, if_neg e11, if_neg e12, if_neg e13, if_neg e14, if_neg e15, if_pos e16, ld1 hj hL, ld2 hj hL, gd_t hkn, gd_t hso, a1, Option.bind_some, ld1 hj hL, ld2 hj hL, gd_t hkn, gd_t a2, a3, Option.bind_some, if_pos rfl]
  by_cases e17 : ((xs j &&& 31)).toInt = 17
  · obtain ⟨a2, r, a1, h2, a3, a4⟩ := p_same (p1 := xs (j + 1)) S hB
    refine ⟨h2, k12, n13, z14, fun K rec => ?_, a4, by omega, by omega⟩
    rw [LL_law_33.eq_1, if_neg hlt, ldS_at (show j < L by omega) hL, jn_eq, hr2, hr4, h5]
    try dsimp only
    rw [if_neg e0, if_neg e1, if_neg e2, if_neg e3, if_neg e4, if_neg e5, if_neg e6, if_neg e7, if_neg e8, if_neg e9, if_neg e10, if_neg e11, if_neg e12, if_neg e13, if_neg e14, if_neg e15, if_neg e16, if_pos e17, ld1 hj hL, gd_t hkn, gd_t hso, a1, Option.bind_some, ld1 hj hL, gd_t hkn, gd_t a2, a3, Option.bind_some, if_pos rfl]
  by_cases e18 : ((xs j &&& 31)).toInt = 18
  · obtain ⟨h1, r, a1, a2, h2, a3, a4⟩ := p_save (p1 := xs (j + 1)) (p2 := xs (j + 2)) (p3 := xs (j + 3)) S
    refine ⟨h2, k12, n13, z14, fun K rec => ?_, a4, by omega, by omega⟩
    rw [LL_law_33.eq_1, if_neg hlt, ldS_at (show j < L by omega) hL, jn_eq, hr2, hr4, h5]
    try dsimp only
    rw [if_neg e0, if_neg e1, if_neg e2, if_neg e3, if_neg e4, if_neg e5, if_neg e6, if_neg e7, if_neg e8, if_neg e9, if_neg e10, if_neg e11, if_neg e12, if_neg e13, if_neg e14, if_neg e15, if_neg e16, if_neg e17, if_pos e18, ld1 hj hL, ld2 hj hL, ld3 hj hL, gd_t hkn, gd_t hso, a1, Option.bind_some]
    try dsimp only
    rw [ld1 hj hL, ld2 hj hL, ld3 hj hL, gd_t hkn, gd_t a2, show FM_save h1 (Z + 97) (xs (j + 1)) (xs (j + 2)) (xs (j + 3)) = _ from a3, Option.bind_some, if_pos rfl]
  by_cases e19 : ((xs j &&& 31)).toInt = 19
  · obtain ⟨h1, r, a1, a2, h2, a3, a4⟩ := p_restore (p1 := xs (j + 1)) (p2 := xs (j + 2)) (p3 := xs (j + 3)) S
    refine ⟨h2, k12, n13, z14, fun K rec => ?_, a4, by omega, by omega⟩
    rw [LL_law_33.eq_1, if_neg hlt, ldS_at (show j < L by omega) hL, jn_eq, hr2, hr4, h5]
    try dsimp only
    rw [if_neg e0, if_neg e1, if_neg e2, if_neg e3, if_neg e4, if_neg e5, if_neg e6, if_neg e7, if_neg e8, if_neg e9, if_neg e10, if_neg e11, if_neg e12, if_neg e13, if_neg e14, if_neg e15, if_neg e16, if_neg e17, if_neg e18, if_pos e19, ld1 hj hL, ld2 hj hL, ld3 hj hL, gd_t hkn, gd_t hso, a1, Option.bind_some]
    try dsimp only
    rw [ld1 hj hL, ld2 hj hL, ld3 hj hL, gd_t hkn, gd_t a2, show FM_restore h1 (Z + 97) (xs (j + 1)) (xs (j + 2)) (xs (j + 3)) = _ from a3, Option.bind_some, if_pos rfl]
  · refine ⟨h, k12, n13, z14, fun K rec => ?_, S.mono (Nat.le_succ B), by omega, by omega⟩
    rw [LL_law_33.eq_1, if_neg hlt, ldS_at (show j < L by omega) hL, jn_eq, hr2, hr4, h5]
    try dsimp only
    rw [if_neg e0, if_neg e1, if_neg e2, if_neg e3, if_neg e4, if_neg e5, if_neg e6, if_neg e7, if_neg e8, if_neg e9, if_neg e10, if_neg e11, if_neg e12, if_neg e13, if_neg e14, if_neg e15, if_neg e16, if_neg e17, if_neg e18, if_neg e19]
theorem law_loop {Z L n wd : Nat} {xs : Nat → Int32} {r2 r4 : Hp × Nat} (hr2 : r2.2 = Z + 97) (hr4 : r4.2 = Z + 113) (hL : L ≤ 2561) : ∀ (c i w B k12 n13 z14 : Nat) (h : Hp), L < 1 + 5 * i + 5 * c + 5 → c < w → ST Z n wd B h → B ≤ i → k12 ≤ 114 + i → n13 ≤ 40039 + 6 * i → i ≤ 600 → ∃ h' k' n' z', (∀ K : Hp → Nat → Nat → Nat → Option Unit, lpG (fun _ _ _ _ _ => none) w (LL_law_33 Z L xs r2 r4 K) h k12 n13 z14 (nI (1 + 5 * i)) = K h' k' n' z') ∧ k' ≤ 601024 ∧ n' ≤ 7293000
  | c, i, w, B, k12, n13, z14, h, hc, hw, S, hB, hk, hn, hi => by
    obtain ⟨w', rfl⟩ : ∃ w', w = w' + 1 := ⟨w - 1, by omega⟩
    by_cases z : L < 1 + 5 * i + 5
    · refine ⟨h, k12, n13, z14, fun K => ?_, by omega, by omega⟩
      rw [lpG_s, LL_law_33.eq_1, if_pos ((law_end hL (by omega)).mpr z)]
    · match c, hc, hw with
      | 0, hc, _ => exact absurd hc (by omega)
      | c + 1, hc, hw =>
        obtain ⟨h', k', n', z', a1, a2, a3, a4⟩ := law_step (xs := xs) (z14 := z14) (j := 1 + 5 * i) hr2 hr4 hL (by omega) S (by omega) (show k12 + 1 ≤ 601024 by omega) (show n13 + 6 ≤ 7293000 by omega)
        obtain ⟨h'', k'', n'', z'', b1, b2, b3⟩ := law_loop (n := n) (wd := wd) hr2 hr4 hL c (i + 1) w' (B + 1) k' n' z' h' (by omega) (by omega) a2 (by omega) (by omega) (by omega) (by omega)
        refine ⟨h'', k'', n'', z'', fun K => ?_, b2, b3⟩
        rw [lpG_s, a1, show 1 + 5 * i + 5 = 1 + 5 * (i + 1) by omega, b1]
