/-! SAME: two trees are held against each other -/
theorem like_loop {β : Type} {Bd : (Int32 → Option β) → Int32 → Option β} {K6 K7 : Option β} {E : Nat → Prop} {N : Nat} (hend : ∀ rec, Bd rec (nI N) = K6) (hy : ∀ rec v, v < N → E v → Bd rec (nI v) = rec (nI (v + 1))) (hn : ∀ rec v, v < N → ¬ E v → Bd rec (nI v) = K7) : ∀ (k i w : Nat), i + k = N → k < w → ((∀ v, i ≤ v → v < N → E v) → lpG (fun _ => none) w Bd (nI i) = K6) ∧ ((¬ ∀ v, i ≤ v → v < N → E v) → lpG (fun _ => none) w Bd (nI i) = K7)
  | 0, i, w, hk, hw => by
    obtain ⟨w', rfl⟩ : ∃ w', w = w' + 1 := ⟨w - 1, by omega⟩
    have : i = N := by omega
    subst this
    exact ⟨fun _ => by rw [lpG_s, hend], fun z => absurd (fun v h1 h2 => by omega) z⟩
  | k + 1, i, w, hk, hw => by
    obtain ⟨w', rfl⟩ : ∃ w', w = w' + 1 := ⟨w - 1, by omega⟩
    obtain ⟨r1, r2⟩ := like_loop hend hy hn k (i + 1) w' (by omega) (by omega)
    refine ⟨fun z => ?_, fun z => ?_⟩
    · rw [lpG_s, hy _ i (by omega) (z i (Nat.le_refl _) (by omega))]
      exact r1 (fun v h1 h2 => z v (by omega) h2)
    · rw [lpG_s]
      by_cases e : E i
      · rw [hy _ i (by omega) e]
        refine r2 (fun y => z (fun v h1 h2 => ?_))
        by_cases q : v = i
        · subst q; exact e
        · exact y v (by omega) h2
      · exact hn _ i (by omega) e
theorem same_loop {β : Type} {Bd : (Int32 → Int32 → Option β) → Int32 → Int32 → Option β} {K : Int32 → Option β} {E : Nat → Prop} {N : Nat} (hend : ∀ rec x, Bd rec x (nI N) = K x) (h0 : ∀ rec v, v ≤ N → Bd rec 0 (nI v) = K 0) (hy : ∀ rec v, v < N → E v → Bd rec 1 (nI v) = rec 1 (nI (v + 1))) (hn : ∀ rec v, v < N → ¬ E v → Bd rec 1 (nI v) = rec 0 (nI (v + 1))) : ∀ (k i w : Nat), i + k = N → k + 1 < w → ((∀ v, i ≤ v → v < N → E v) → lpG (fun _ _ => none) w Bd 1 (nI i) = K 1) ∧ ((¬ ∀ v, i ≤ v → v < N → E v) → lpG (fun _ _ => none) w Bd 1 (nI i) = K 0)
  | 0, i, w, hk, hw => by
    obtain ⟨w', rfl⟩ : ∃ w', w = w' + 1 := ⟨w - 1, by omega⟩
    have : i = N := by omega
    subst this
    exact ⟨fun _ => by rw [lpG_s, hend], fun z => absurd (fun v h1 h2 => by omega) z⟩
  | k + 1, i, w, hk, hw => by
    obtain ⟨w', rfl⟩ : ∃ w', w = w' + 1 := ⟨w - 1, by omega⟩
    obtain ⟨r1, r2⟩ := same_loop hend h0 hy hn k (i + 1) w' (by omega) (by omega)
    refine ⟨fun z => ?_, fun z => ?_⟩
    · rw [lpG_s, hy _ i (by omega) (z i (Nat.le_refl _) (by omega))]
      exact r1 (fun v h1 h2 => z v (by omega) h2)
    · rw [lpG_s]
      by_cases e : E i
      · rw [hy _ i (by omega) e]
        refine r2 (fun y => z (fun v h1 h2 => ?_))
        by_cases q : v = i
        · subst q; exact e
        · exact y v (by omega) h2
      · rw [hn _ i (by omega) e]
        obtain ⟨w3, rfl⟩ : ∃ w3, w' = w3 + 1 := ⟨w' - 1, by omega⟩
        rw [lpG_s, h0 _ (i + 1) (by omega)]
theorem e_isLike {n P a b N : Nat} {fm es hv es' hv' : Int32} {cn sg pa fs sn lf cn' sg' pa' fs' sn' lf' : Nat → Int32} {h : Hp} (hn : n ≤ 64) (hN : N ≤ 2 * n + 1) (ha : ov n P a fm (nI N) es hv cn sg pa fs sn lf h = h) (hb : ov n P b fm (nI N) es' hv' cn' sg' pa' fs' sn' lf' h = h) : ((∀ v, v < N → cn v = cn' v ∧ sg v = sg' v ∧ fs v = fs' v ∧ sn v = sn' v) → FT_isLike h a b = some 1) ∧ ((¬ ∀ v, v < N → cn v = cn' v ∧ sg v = sg' v ∧ fs v = fs' v ∧ sn v = sn' v) → FT_isLike h a b = some 0) := by
  have hda := ov_hd ha
  have hdb := ov_hd hb
  have key := like_loop (Bd := LT_isLike_26 h a b (some 1) (some 0)) (K6 := some 1) (K7 := some 0) (E := fun v => cn v = cn' v ∧ sg v = sg' v ∧ fs v = fs' v ∧ sn v = sn' v) (N := N) (fun rec => by rw [LT_isLike_26.eq_1, gI_at hda rfl, if_pos (nI_le (Nat.le_refl _) (by omega))]) (fun rec v hv' e => by
      rw [LT_isLike_26.eq_1, gI_at hda rfl, if_neg (nI_ge hv' (by omega)), h_cn ha hv' hN hn, h_cn hb hv' hN hn, if_pos e.1, h_sg ha hv' hN hn, h_sg hb hv' hN hn, if_pos e.2.1, h_fs ha hv' hN hn, h_fs hb hv' hN hn, if_pos e.2.2.1, h_sn ha hv' hN hn, h_sn hb hv' hN hn, if_pos e.2.2.2, show nI v + 1 = nI (v + 1) from nI_add _ _]) (fun rec v hv' e => by
      rw [LT_isLike_26.eq_1, gI_at hda rfl, if_neg (nI_ge hv' (by omega)), h_cn ha hv' hN hn, h_cn hb hv' hN hn]
      by_cases e1 : cn v = cn' v
      · rw [if_pos e1, h_sg ha hv' hN hn, h_sg hb hv' hN hn]
        by_cases e2 : sg v = sg' v
        · rw [if_pos e2, h_fs ha hv' hN hn, h_fs hb hv' hN hn]
          by_cases e3 : fs v = fs' v
          · rw [if_pos e3, h_sn ha hv' hN hn, h_sn hb hv' hN hn]
            rw [if_neg (fun e4 => e ⟨e1, e2, e3, e4⟩)]
          · rw [if_neg e3]
        · rw [if_neg e2]
      · rw [if_neg e1]) N 0 fu (by omega) (by show N < 100000; omega)
  have un : FT_isLike h a b = lpG (fun _ => none) fu (LT_isLike_26 h a b (some 1) (some 0)) (nI 0) := by
    unfold FT_isLike
    rw [gI_at hda rfl, gI_at hdb rfl, jn_eq]
    try dsimp only
    rw [if_pos rfl, gI_at hda rfl, gI_at hdb rfl, if_pos rfl, jn_eq]
    try dsimp only
    rw [jn_eq]
    try dsimp only
    rw [gd_t (Or.inr rfl), gd_t (Or.inl rfl)]
    rfl
  rw [un]
  exact ⟨fun z => key.1 (fun v _ h2 => z v h2), fun z => key.2 (fun y => z (fun v h2 => y v (Nat.zero_le _) h2))⟩
theorem e_isLike_no {n P a b N N' : Nat} {fm es hv fm' es' hv' : Int32} {cn sg pa fs sn lf cn' sg' pa' fs' sn' lf' : Nat → Int32} {h : Hp} (ha : ov n P a fm (nI N) es hv cn sg pa fs sn lf h = h) (hb : ov n P b fm' (nI N') es' hv' cn' sg' pa' fs' sn' lf' h = h) (hne : ¬ (fm = fm' ∧ nI N = nI N')) : FT_isLike h a b = some 0 := by
  have hda := ov_hd ha
  have hdb := ov_hd hb
  unfold FT_isLike
  rw [gI_at hda rfl, gI_at hdb rfl, jn_eq]
  try dsimp only
  rw [gd_t (Or.inl rfl)]
  by_cases e : fm = fm'
  · rw [if_pos e, gI_at hda rfl, gI_at hdb rfl, if_neg (fun y => hne ⟨e, y⟩)]
  · rw [if_neg e]
/-- where both are counted, the class's test and the model's are the same -/
theorem like_cnt {n m : Nat} {c g o c' g' o' : Nat → Nat} {es es' : Int32} {cn sg pa fs sn lf cn' sg' pa' fs' sn' lf' : Nat → Int32} (hm : m ≤ 64) (hn : n ≤ 64) (hG : GI n m g o) (hG' : GI n m g' o') (hc : ∀ v, v < 2 * m + 1 → c v < 2 ^ 31 ∧ c' v < 2 ^ 31) (ho : ∀ k, k < m → o k < 2 * k + 1) (ho' : ∀ k, k < m → o' k < 2 * k + 1) (hT : CT n m c g o es cn sg pa fs sn lf) (hT' : CT n m c' g' o' es' cn' sg' pa' fs' sn' lf') :
    (∀ v, v < 2 * m + 1 → cn v = cn' v ∧ sg v = sg' v ∧ fs v = fs' v ∧ sn v = sn' v) ↔ ∀ v, v < 2 * m + 1 → nI (c v) = nI (c' v) ∧ sI (g v) = sI (g' v) ∧ pa v = pa' v := by
  constructor
  · intro hE v hv
    refine ⟨?_, ?_, ?_⟩
    · rw [← (hT.1 v hv).1, ← (hT'.1 v hv).1]; exact (hE v hv).1
    · rw [← (hT.1 v hv).2.1, ← (hT'.1 v hv).2.1]; exact (hE v hv).2.1
    · by_cases z : v = 0
      · subst z; rw [hT.2.1, hT'.2.1]
      · have hk : (v - 1) / 2 < m := by omega
        rw [hT.pa ho (by omega) hv, hT'.pa ho' (by omega) hv]
        have hok := ho _ hk
        obtain ⟨k, hkk⟩ : ∃ k, k = (v - 1) / 2 := ⟨_, rfl⟩
        rw [← hkk] at hk hok ⊢
        have hx : o k < 2 * m + 1 := by omega
        have hg : g (o k) = 0 := (hG.1 _ hx).mpr ⟨k, hk, rfl⟩
        have hE2 := hE (o k) hx
        have hgl := hG'.lt hx
        have hg' : g' (o k) = 0 := by
          have e := hE2.2.1
          rw [(hT.1 _ hx).2.1, (hT'.1 _ hx).2.1, hg] at e
          exact (sI_m1 (by omega)).mp (by rw [← e]; rfl)
        obtain ⟨k', hk', hk2⟩ := (hG'.1 _ hx).mp hg'
        have f1 := ((hT.1 _ hx).2.2.1 k hk rfl).1
        have f2 := ((hT'.1 _ hx).2.2.1 k' hk' hk2).1
        have e := hE2.2.2.1
        rw [f1, f2, nI_eq (by omega) (by omega)] at e
        have : k = k' := by omega
        subst this
        rw [hk2]
  · intro hE v hv
    obtain ⟨e1, e2, e3⟩ := hE v hv
    have h1 := hT.1 v hv
    have h2 := hT'.1 v hv
    have hgl := hG.lt hv
    have hgl' := hG'.lt hv
    have hgg : g v = g' v := (sI_inj (by omega) (by omega)).mp e2
    refine ⟨by rw [h1.1, h2.1]; exact e1, by rw [h1.2.1, h2.2.1]; exact e2, ?_⟩
    by_cases z : g v = 0
    · obtain ⟨k, k1, k2⟩ := (hG.1 v hv).mp z
      have f1 := h1.2.2.1 k k1 k2
      have hp := (hE (2 * k + 1) (by omega)).2.2
      rw [hT.pa ho (by omega) (by omega), hT'.pa ho' (by omega) (by omega), show (2 * k + 1 - 1) / 2 = k by omega] at hp
      have b1 := ho k k1
      have b2 := ho' k k1
      rw [nI_eq (by omega) (by omega)] at hp
      have f2 := h2.2.2.1 k k1 (by rw [← hp]; exact k2)
      rw [f1.1, f1.2.1, f2.1, f2.2.1]
      exact ⟨rfl, rfl⟩
    · have f1 := h1.2.2.2.1 z
      have f2 := h2.2.2.2.1 (by rw [← hgg]; exact z)
      rw [f1.1, f1.2, f2.1, f2.2]
      exact ⟨rfl, rfl⟩
theorem like_spl {n : Nat} {u d u' d' : Nat → Nat} {cn sg pa fs sn lf cn' sg' pa' fs' sn' lf' : Nat → Int32} (hn : n ≤ 64) (hS : SI n u d) (hS' : SI n u' d') (hT : CS n u d cn sg pa fs sn lf) (hT' : CS n u' d' cn' sg' pa' fs' sn' lf') :
    (∀ v, v < 2 * n - 1 → cn v = cn' v ∧ sg v = sg' v ∧ fs v = fs' v ∧ sn v = sn' v) ↔ ∀ v, v < 2 * n - 1 → 0 < v → u v = u' v ∧ d v = d' v := by
  constructor
  · intro hE v hv v0
    have hu := hS.1 v v0 hv
    have hE2 := hE (u v) (by omega)
    obtain ⟨x, x0, x1, x2, x3⟩ := hS'.2.2.1 (u v) hu.1 (d v) hu.2
    have h1 := hT.2.2.1 v v0 hv
    have h2 := hT'.2.2.1 x x0 x1
    rw [x2] at h2
    have hvx : v = x := by
      by_cases z : d v = 0
      · have e := hE2.2.2.1
        rw [h1.2.1 z, h2.2.1 (by omega), nI_eq (by omega) (by omega)] at e
        exact e
      · have e := hE2.2.2.2
        rw [h1.2.2 (by omega), h2.2.2 (by omega), nI_eq (by omega) (by omega)] at e
        exact e
    subst hvx
    exact ⟨x2.symm, x3.symm⟩
  · intro hE v hv
    have h1 := hT.1 v hv
    have h2 := hT'.1 v hv
    refine ⟨by rw [h1.1, h2.1], by rw [h1.2, h2.2], ?_⟩
    by_cases z : v < n - 1
    · obtain ⟨x, x0, x1, x2, x3⟩ := hS.2.2.1 v z 0 (by omega)
      obtain ⟨y, y0, y1, y2, y3⟩ := hS.2.2.1 v z 1 (by omega)
      have ex := hE x x1 x0
      have ey := hE y y1 y0
      have fx := (hT.2.2.1 x x0 x1).2.1 x3
      have fx' := (hT'.2.2.1 x x0 x1).2.1 (by omega)
      have fy := (hT.2.2.1 y y0 y1).2.2 y3
      have fy' := (hT'.2.2.1 y y0 y1).2.2 (by omega)
      rw [x2] at fx
      rw [← ex.1, x2] at fx'
      rw [y2] at fy
      rw [← ey.1, y2] at fy'
      rw [fx, fx', fy, fy']
      exact ⟨rfl, rfl⟩
    · have f1 := hT.2.2.2.1 v (by omega) hv
      have f2 := hT'.2.2.2.1 v (by omega) hv
      rw [f1.1, f1.2, f2.1, f2.2]
      exact ⟨rfl, rfl⟩
