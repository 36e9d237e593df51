/-- the state after both constructors -/
theorem law_init {Z n wd : Nat} {g2 h1 h5 : Hp} {A' : Nat → Nat → Int32} (hN : PN n wd) (k1 : KA Z n wd 0 0 1000 (fun _ => 0) (fun _ => 0) g2) (k2 : KG Z (-1) 0 0 0 g2) (k3 : oc (Z + 7) (2 * n + 1 + wd) (fun _ => 0) 0 g2 = g2) (k4 : op (Z + 9) (n + 1) (fun _ => 0) (fun _ => 0) (fun _ => 0) 0 g2 = g2) (k5 : ∀ j, j < 12 → TI n (Z + 9) (Z + 13 + 7 * j) g2) (b1 : ∀ q, q < 8 → BG q A') (b2 : ∀ j, A' 4 j = 0) (b3 : ∀ j, A' 11 j = 0) (c1 : ∀ x, x < Z + 97 → h1 x = g2 x) (c2 : ∀ x, x ≠ Z + 113 → h5 x = om (Z + 97) (x0M n wd) A' h1 x) (o5 : out Z h5) : ST Z n wd 0 h5 := by
  have hh : ∀ x, x < Z + 97 → h5 x = g2 x := fun x hx => by rw [c2 x (by omega), om_out (by omega), c1 x hx]
  refine ⟨0, 0, 1000, fun _ => 0, fun _ => 0, (-1), 0, 0, 0, x0M n wd, A', ⟨hN, ⟨k1.ag (fun x _ _ => hh x (by omega)), k2.ag (hh _ (by omega)), ⟨_, _, oc_ag k3 (hh _ (by omega)) (hh _ (by omega))⟩, ⟨_, _, _, _, op_ag k4 (fun x _ _ => hh x (by omega))⟩⟩, ⟨rfl, rfl, rfl, rfl, rfl, Nat.le_refl _, by omega, fun j hj => by omega, fun s hs => ⟨(b2 s).symm, 0, by omega, b2 s⟩⟩, Or.inl ⟨rfl, rfl, rfl, rfl, rfl⟩, fun q hq => ?_, o5⟩, om_ag (h := om (Z + 97) (x0M n wd) A' h1) om_om (fun x _ _ => c2 x (by omega))⟩
  have hb := ad_bd (Z := Z) hq
  obtain ⟨es, cn, sg, pa, fs, sn, lf, t1, t2⟩ := (k5 (ca q) (ca_lt hq)).ag (h' := h5) (fun x x1 x2 => hh x (by unfold ad at hb; omega))
  by_cases z : q < 8
  · obtain ⟨m1, m2, m3, m4, m5, m6⟩ := b1 q z
    refine Or.inl (Or.inl ⟨0, c0, g0, fun _ => 0, 0, es, cn, sg, pa, fs, sn, lf, fun _ => 0, CI0, t1, t2, ⟨m2, fun p hp => ?_, fun p p' _ _ _ => by omega, fun k hk => ⟨0, by omega, by show 0 = k; omega⟩, fun k hk => by omega⟩, m1, m3⟩)
    have : p = 0 := by omega
    subst this
    exact ⟨by omega, m4, m5, m6⟩
  · exact Or.inr ⟨by omega, b2 _, _, _, _, _, _, _, _, _, _, _, t1⟩
set_option maxRecDepth 20000 in
theorem pure_all (z L : Nat) (xs : Nat → Int32) (hL : L ≤ 2561) : FL_law (fun _ => none) z L xs = some () := by
  obtain ⟨n, n0, n1, hN, hj⟩ := sgn_n (cv0 xs L)
  obtain ⟨wd, w0, w1, w2, hW1, hW2⟩ := wid_loop (n := n) n1 5 1 (by omega)
  have hWA : ∀ h, FA_widthFor h (nI n) = some (nI wd) := fun h => by
    unfold FA_widthFor
    rw [jn_eq]
    exact hW1 fu _ (by show 5 < 100000; omega)
  obtain ⟨h1, e1, a1, c1⟩ := nw_ex (h := fun _ => none) (z := z) (x := .inr (4, [.int 0, .int 0, .null, .null, .null, .null, .null, .int 0, .int 0, .int 0, .null, .null]))
  obtain ⟨g2, e2, k1, k2, k3, k4, k5⟩ := e_Ainit (p := cv0 xs L) n1 w1 hN hWA a1
  obtain ⟨h3, e3, a3, c3⟩ := nw_ex (h := g2) (z := z + 97) (x := .inr (5, [.int 0, .int 0, .int 0, .null, .null, .null, .null, .null, .null, .null, .null, .null, .null, .int 0, .null, .int 0, .int 0, .int 0, .int 0, .int 0, .int 0, .null, .null, .null, .null, .int 0]))
  obtain ⟨h4, A', e4, b1, b2, b3, c4⟩ := e_Minit (p := cv0 xs L) (n := n) (wd := wd) hj (fun f a h fl K x1 x2 x3 => hW2 f a h fl K x1 x2 x3) a3
  obtain ⟨h5, e5, a5, c5⟩ := nw_ex (h := om (z + 97) (x0M n wd) A' h4) (z := z + 97 + 16) (x := .inl (2, 1, .inr (.inl (fun _ => 0))))
  have S := law_init (Z := z) (h5 := h5) ⟨n0, n1, w0, w1, w2⟩ k1 k2 k3 k4 k5 b1 b2 b3 (fun x hx => by rw [c4 x (by omega), c3 x (by omega)]) (fun x hx => c5 x (by omega)) ⟨_, a5⟩
  obtain ⟨h', k', n', z', r1, r2, r3⟩ := law_loop (xs := xs) (r2 := (g2, z + 97)) (r4 := (om (z + 97) (x0M n wd) A' h4, z + 97 + 16)) rfl rfl hL 600 0 fu 0 114 40039 (z + 97 + 16 + 1) h5 (by omega) (by show 600 < 100000; omega) S (by omega) (by omega) (by omega) (by omega)
  unfold FL_law
  rw [show (1 : Int32).toNatClampNeg = 1 from rfl]
  rw [gd_t (by omega), e1, gd_t (by omega), gd_t (by omega), e2, Option.bind_some]
  try dsimp only
  rw [gd_t (by omega), e3, gd_t (by omega), gd_t (by omega), e4, Option.bind_some]
  try dsimp only
  rw [gd_t (by decide), e5, jn_eq]
  refine Eq.trans (r1 _) ?_
  try dsimp only
  rw [gd_t ⟨r2, r3⟩]
