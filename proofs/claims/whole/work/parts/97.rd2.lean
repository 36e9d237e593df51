/-! A BIT OF A CODE: down the tree, or into the number behind the escape -/
theorem m_ends {M q : Nat} {X : Nat → Int32} {A A' : Nat → Nat → Int32} {h2 : Hp} {s : Int32} (e : FM_steps (om M (upd X 16 (-1)) A h2) M (nI q) s = some (om M (upd X 16 (-1)) A' h2)) : FM_ends (om M X A h2) M (nI q) s = some (om M (upd X 16 (-1)) A' h2, s) := by
  unfold FM_ends
  rw [mp_16, gd_t o_om, e, Option.bind_some]
theorem off_s {n s : Nat} (hn : 1 ≤ n) : nI (n - 1 + s) - nI n + 1 = nI s := by
  rw [show nI (n - 1 + s) - nI n + 1 = (nI (n - 1 + s) + 1) - nI n from by grind, show nI (n - 1 + s) + 1 = nI (n - 1 + s + 1) from nI_add _ _, pk_sub (by omega)]
  congr 1
  omega
section RD2
variable {Z n wd B wb tb : Nat} {lm : Int32} {hs wr : Nat → Int32} {X : Nat → Int32} {A : Nat → Nat → Int32} {h : Hp} {t v w bb b : Nat}
theorem rd_move {P N x : Nat} {fm es hv : Int32} {cn sg pa fs sn lf : Nat → Int32} (S : SS Z n wd B wb tb lm hs wr (nI t) (nI v) (nI w) (nI bb) X A h) (ht : t < 4) (hov : ov n P (ad Z (4 + t)) fm (nI N) es hv cn sg pa fs sn lf h = h) (hvl : v < N) (hx : x < N) (hN : N ≤ 2 * n + 1) (hne : sg v ≠ (-2)) (hc : FT_childOf h (ad Z (4 + t)) (nI v) (nI b) = some (nI x)) :
    ∃ h15 r22, KG Z (nI t) (nI x) (nI w) (nI bb) h15 ∧ (∀ y, y ≠ Z + 6 → h15 y = h y) ∧ KG Z (-1) 0 0 0 r22 ∧ (∀ y, y ≠ Z + 6 → r22 y = h y) ∧ rdA h Z (ad Z (4 + t)) (nI b) = if 0 ≤ sg x then (FT_stepBy r22 (ad Z (4 + t)) (sg x) lm).bind (fun r => some (r, sg x)) else some (h15, (-1)) := by
  obtain ⟨n0, n1, w0, w1, w2⟩ := S.1
  have hK := S.2.1.1
  have hG := S.2.1.2.1
  have hb := ad_bd (Z := Z) (show 4 + t < 12 by omega)
  obtain ⟨h15, a1, b1, c1⟩ := hG.P1 (v := nI x)
  obtain ⟨r22, a2, b2, c2⟩ := e_Rbegin b1
  have hK1 : KA Z n wd wb tb lm hs wr h15 := hK.ag (fun y _ _ => c1 y (by omega))
  have hov1 : ov n P (ad Z (4 + t)) fm (nI N) es hv cn sg pa fs sn lf h15 = h15 := ov_ag hov (fun y _ _ => c1 y (by omega))
  have hK2 : KA Z n wd wb tb lm hs wr r22 := hK1.ag (fun y _ _ => c2 y (by omega))
  have hov2 : ov n P (ad Z (4 + t)) fm (nI N) es hv cn sg pa fs sn lf r22 = r22 := ov_ag hov1 (fun y _ _ => c2 y (by omega))
  refine ⟨h15, r22, b1, c1, b2, fun y hy => by rw [c2 y hy, c1 y hy], ?_⟩
  have etw : FA_takeWayBit h Z (ad Z (4 + t)) (nI b) = some (h15, if sg x < 0 then (-1) else sg x) := by
    unfold FA_takeWayBit
    rw [hK.r11, hK.r11, hG.i1, gd_t (isO_at (ov_hd hov)), hc, Option.bind_some, a1, hK1.r11, b1.i1, h_sg hov1 hx hN n1, jn_eq]
    try dsimp only
    by_cases z : sg x < 0
    · rw [if_pos z, if_pos z]
    · rw [if_neg z, if_neg z]
  unfold rdA
  rw [hK.r11, hG.i1, h_sg hov hvl hN n1, jn_eq]
  try dsimp only
  rw [if_neg hne, jn_eq]
  try dsimp only
  rw [if_pos rfl, gd_t hK.o, etw, Option.bind_some]
  try dsimp only
  by_cases z : 0 ≤ sg x
  · have zn : ¬ sg x < 0 := Int32.not_lt.mpr z
    have z1 : ¬ sg x = (-1) := fun e => absurd z (by rw [e]; decide)
    have z6 : ¬ sg x = (-6) := fun e => absurd z (by rw [e]; decide)
    rw [if_neg zn, if_neg z1, if_pos z, hK1.r11, gd_t b1.o, a2, Option.bind_some, jn_eq]
    try dsimp only
    rw [if_neg z6, hK2.i9, gd_t (isO_at (ov_hd hov2))]
  · have zn : sg x < 0 := Int32.not_le.mp z
    rw [if_pos zn, if_pos rfl, if_neg z]
theorem e_child {P N v x : Nat} {a : Nat} {fm es hv : Int32} {cn sg pa fs sn lf : Nat → Int32} (hov : ov n P a fm (nI N) es hv cn sg pa fs sn lf h = h) (hvl : v < N) (hN : N ≤ 2 * n + 1) (hn : n ≤ 64) (hb : b < 2) (h0 : b = 0 → fs v = nI x) (h1 : b = 1 → sn v = nI x) : FT_childOf h a (nI v) (nI b) = some (nI x) := by
  rw [← hov, e_childOf hvl hN hn]
  by_cases z : b = 0
  · subst z
    rw [if_pos nI_0, h0 rfl]
  · have : b = 1 := by omega
    subst this
    rw [if_neg (by decide), h1 rfl]
/-- both sides move to the node x, a leaf or not -/
theorem rd_fin {P N x : Nat} {fm es hv : Int32} {cn sg pa fs sn lf : Nat → Int32} {m : Option (Hp × Int32)} (h2 : Hp) (S : SS Z n wd B wb tb lm hs wr (nI t) (nI v) (nI 0) (nI 0) X A h) (ht : t < 4) (hB : B < 2 ^ 27) (h16 : X 16 = nI (4 + t)) (h18 : X 18 = nI 0) (h19 : X 19 = nI 0) (hov : ov n P (ad Z (4 + t)) fm (nI N) es hv cn sg pa fs sn lf h = h) (hvl : v < N) (hx : x < N) (hN : N ≤ 2 * n + 1) (hne : sg v ≠ (-2)) (hc : FT_childOf h (ad Z (4 + t)) (nI v) (nI b) = some (nI x)) (hsx : sg x = (-1) ∨ sg x = (-2) ∨ ∃ s, s < n ∧ sg x = nI s)
    (hm1 : sg x = (-1) ∨ sg x = (-2) → m = some (om (Z + 97) (upd X 17 (nI x)) A h2, (-1)))
    (hm2 : ∀ s, s < n → sg x = nI s → m = FM_ends (om (Z + 97) (upd X 17 (nI x)) A h2) (Z + 97) (nI (4 + t)) (nI s)) :
    RD Z n wd B wb tb lm hs wr t h (rdA h Z (ad Z (4 + t)) (nI b)) m h2 := by
  obtain ⟨h15, r22, d1, d2, d3, d4, d5⟩ := rd_move (x := x) S ht hov hvl hx hN hne hc
  have hb := ad_bd (Z := Z) (show 4 + t < 12 by omega)
  have n1 := S.1.2.1
  by_cases z : sg x = (-1) ∨ sg x = (-2)
  · have hng : ¬ 0 ≤ sg x := by rcases z with z | z <;> rw [z] <;> decide
    rw [if_neg hng] at d5
    refine ⟨h15, (-1), B, upd X 17 (nI x), A, nI t, nI x, nI 0, nI 0, d5, hm1 z, ?_, fun y hy => d2 y (by omega), Or.inl ⟨rfl, rfl, rfl⟩⟩
    refine S.kg d1 d2 ⟨rfl, rfl, rfl, rfl, rfl⟩ (Or.inr ⟨t, x, 0, 0, ht, rfl, rfl, rfl, rfl, h16, rfl, h18, h19, P, N, fm, es, hv, cn, sg, pa, fs, sn, lf, ov_ag hov (fun y _ _ => d2 y (by omega)), hx, hN, ?_⟩)
    rcases z with z | z
    · exact Or.inl ⟨z, rfl, rfl⟩
    · exact Or.inr ⟨z, S.1.2.2.1, by omega⟩
  · obtain ⟨s, s1, s2⟩ : ∃ s, s < n ∧ sg x = nI s := by
      rcases hsx with y | y | y
      · exact absurd (Or.inl y) z
      · exact absurd (Or.inr y) z
      · exact y
    rw [s2, if_pos (by rw [show (0 : Int32) = nI 0 from rfl]; exact nI_le (Nat.zero_le _) (by omega))] at d5
    have S2 := S.kg (X' := upd (upd X 17 (nI x)) 16 (-1)) d3 d4 ⟨rfl, rfl, rfl, rfl, rfl⟩ (Or.inl ⟨rfl, rfl, rfl, rfl, rfl⟩)
    obtain ⟨h', A', f1, f2, f3, f4, f5⟩ := S2.stepG (q := 4 + t) h2 (by omega) s1 hB (fun t' ht' e => absurd e.symm (m1_nI (by omega)))
    refine ⟨h', nI s, B + 1, _, A', (-1), 0, 0, 0, ?_, ?_, f5, fun y hy => by rw [f3 y hy, d4 y (by omega)], Or.inr ⟨m1_nI (by omega), Nat.le_refl _⟩⟩
    · rw [d5, f1, Option.bind_some]
    · rw [hm2 s s1 s2, m_ends f4]
end RD2
