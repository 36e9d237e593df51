/-! WELL: both sides always find their trees well -/
section WL1
variable {n P a N : Nat} {fm es hv : Int32} {cn sg pa fs sn lf : Nat → Int32} {h : Hp}
theorem e_isWell (hn : n ≤ 64) (hN : N ≤ 2 * n + 1) (hov : ov n P a fm (nI N) es hv cn sg pa fs sn lf h = h)
    (H1 : ∀ v, v < N → fs v = (-1) ∨ ∃ x y : Nat, fs v = nI x ∧ sn v = nI y ∧ x < 2 * n + 1 ∧ y < 2 * n + 1 ∧ pa x = nI v ∧ pa y = nI v)
    (H2 : ∀ v, v < N → sg v < 0 ∨ ∃ s, s < n ∧ sg v = nI s ∧ lf s = nI v)
    (H3 : fm = 0 → ∀ v, v < N → (v = 0 ∨ cn v ≤ cn (v - 1)) ∧ (fs v = (-1) ∨ ∃ x y : Nat, fs v = nI x ∧ sn v = nI y ∧ x < 2 * n + 1 ∧ y < 2 * n + 1 ∧ cn v = cn x + cn y))
    (H4 : ∀ s, s < n → lf s = (-1) ∨ ∃ v, v < 2 * n + 1 ∧ lf s = nI v ∧ sg v = nI s) : FT_isWell h a = some 1 := by
  have a1 : h (a + 1) = some (.inl (0, 2 * n + 1, .inl cn)) := by rw [← hov, ov_cn]
  have a2 : h (a + 2) = some (.inl (0, 2 * n + 1, .inl sg)) := by rw [← hov, ov_sg]
  have a3 : h (a + 3) = some (.inl (0, 2 * n + 1, .inl pa)) := by rw [← hov, ov_pa]
  have a4 : h (a + 4) = some (.inl (0, 2 * n + 1, .inl fs)) := by rw [← hov, ov_fs]
  have a5 : h (a + 5) = some (.inl (0, 2 * n + 1, .inl sn)) := by rw [← hov, ov_sn]
  have a6 : h (a + 6) = some (.inl (0, n, .inl lf)) := by rw [← hov, ov_lf]
  have hda := ov_hd hov
  have ho : isO h a 3 = true := isO_at hda
  have ch : ∀ v, v < N → FT_areChildrenWell h a (nI v) = some 1 := fun v hv' => by
    unfold FT_areChildrenWell
    rw [gR_at hda rfl, ldI_at a4 (by omega) (by omega), jn_eq]
    try dsimp only
    rw [jn_eq]
    try dsimp only
    rcases H1 v hv' with e | ⟨x, y, e1, e2, x1, y1, e3, e4⟩
    · rw [if_pos e, gd_t (Or.inr rfl)]
    · rw [e1, if_neg (m1_nI (by omega)), gR_at hda rfl, gR_at hda rfl, ldI_at a4 (by omega) (by omega), e1, ldI_at a3 x1 (by omega), jn_eq]
      try dsimp only
      rw [if_pos e3, gR_at hda rfl, gR_at hda rfl, ldI_at a5 (by omega) (by omega), e2, ldI_at a3 y1 (by omega), if_pos e4, gd_t (Or.inr rfl)]
  have ol : ∀ v, v < N → FT_isOnlyLeafOfItsSign h a (nI v) = some 1 := fun v hv' => by
    unfold FT_isOnlyLeafOfItsSign
    rw [gR_at hda rfl, ldI_at a2 (by omega) (by omega), jn_eq]
    try dsimp only
    rw [jn_eq]
    try dsimp only
    rcases H2 v hv' with e | ⟨s, s1, e1, e2⟩
    · rw [if_pos e, gd_t (Or.inr rfl)]
    · rw [e1, if_neg (nI_pos (by omega)), gR_at hda rfl, gR_at hda rfl, ldI_at a2 (by omega) (by omega), e1, ldI_at a6 s1 (by omega), if_pos e2, gd_t (Or.inr rfl)]
  have cw : fm = 0 → ∀ v, v < N → FT_isCountWell h a (nI v) = some 1 := fun hfm v hv' => by
    obtain ⟨h1, h2⟩ := H3 hfm v hv'
    have tail : (gR h a 3 5 (fun a2 =>
      ldI h a2 0 (nI v) (fun x3 =>
      if x3 = (-1) then
        (gd ((1 : Int32) = 0 ∨ (1 : Int32) = 1) (some 1))
      else
        (gR h a 3 2 (fun a7 =>
        ldI h a7 0 (nI v) (fun x8 =>
        gR h a 3 2 (fun a9 =>
        gR h a 3 5 (fun a10 =>
        ldI h a10 0 (nI v) (fun x11 =>
        ldI h a9 0 x11 (fun x12 =>
        gR h a 3 2 (fun a13 =>
        gR h a 3 6 (fun a14 =>
        ldI h a14 0 (nI v) (fun x15 =>
        ldI h a13 0 x15 (fun x16 =>
        if x8 = (x12 + x16) then
          (gd ((1 : Int32) = 0 ∨ (1 : Int32) = 1) (some 1))
        else
          (gd ((0 : Int32) = 0 ∨ (0 : Int32) = 1) (some (0 : Int32))))))))))))))))) = some 1 := by
      rw [gR_at hda rfl, ldI_at a4 (by omega) (by omega)]
      rcases h2 with e | ⟨x, y, e1, e2, x1, y1, e3⟩
      · rw [if_pos e, gd_t (Or.inr rfl)]
      · rw [e1, if_neg (m1_nI (by omega)), gR_at hda rfl, ldI_at a1 (by omega) (by omega), gR_at hda rfl, gR_at hda rfl, ldI_at a4 (by omega) (by omega), e1, ldI_at a1 x1 (by omega), gR_at hda rfl, gR_at hda rfl, ldI_at a5 (by omega) (by omega), e2, ldI_at a1 y1 (by omega), if_pos e3, gd_t (Or.inr rfl)]
    unfold FT_isCountWell
    simp only [jn_eq]
    by_cases z : v = 0
    · subst z
      rw [if_pos (by decide)]
      exact tail
    · obtain ⟨v', rfl⟩ : ∃ v', v = v' + 1 := ⟨v - 1, by omega⟩
      have h1' : cn (v' + 1) ≤ cn v' := by
        rcases h1 with e | e
        · omega
        · exact e
      rw [if_neg (show ¬ nI (v' + 1) ≤ 0 from fun e => nI_ge (a := 0) (b := v' + 1) (by omega) (by omega) e), gR_at hda rfl, ldI_at a1 (by omega) (by omega), gR_at hda rfl, nI_s1, ldI_at a1 (by omega) (by omega), if_pos h1']
      exact tail
  have l2 := like_loop (Bd := LT_isWell_53 h a (some 1) (some 0)) (K6 := some 1) (K7 := some 0) (E := fun _ => True) (N := n) (fun rec => by rw [LT_isWell_53.eq_1, gI_at hda rfl, if_pos (nI_le (Nat.le_refl _) (by omega))]) (fun rec s hs _ => by
    have hl := hasLeaf_at (h := h) (a := a) (n := n) (s := s) (K := id) (lf := lf) hda rfl a6 hs hn
    rw [LT_isWell_53.eq_1, gI_at hda rfl, if_neg (nI_ge hs (by omega)), gd_t ho, hl, Option.bind_some, jn_eq]
    try dsimp only
    rw [show nI s + 1 = nI (s + 1) from nI_add _ _]
    rcases H4 s hs with e | ⟨v, v1, e1, e2⟩
    · rw [if_pos e, if_pos rfl]
    · rw [e1, if_neg (m1_nI (by omega)), if_neg (by decide), gR_at hda rfl, gR_at hda rfl, ldI_at a6 hs (by omega), e1, ldI_at a2 v1 (by omega), if_pos e2]) (fun rec v _ e => absurd trivial e) n 0 fu (by omega) (by show n < 100000; omega)
  have l1 := like_loop (Bd := LT_isWell_2 h a (lpG (fun _ => none) fu (LT_isWell_53 h a (some 1) (some 0)) (nI 0)) (some 0) (some 0)) (K6 := lpG (fun _ => none) fu (LT_isWell_53 h a (some 1) (some 0)) (nI 0)) (K7 := some 0) (E := fun _ => True) (N := N) (fun rec => by rw [LT_isWell_2.eq_1, gI_at hda rfl, if_pos (nI_le (Nat.le_refl _) (by omega))]) (fun rec v hv' _ => by
    rw [LT_isWell_2.eq_1, gI_at hda rfl, if_neg (nI_ge hv' (by omega)), gd_t ho, ch v hv', Option.bind_some, if_neg (by decide), gd_t ho, ol v hv', Option.bind_some, if_neg (by decide), gI_at hda rfl, jn_eq]
    try dsimp only
    rw [show nI v + 1 = nI (v + 1) from nI_add _ _]
    by_cases z : fm = 0
    · rw [if_pos z, gd_t ho, cw z v hv', Option.bind_some, if_neg (by decide)]
    · rw [if_neg z]) (fun rec v _ e => absurd trivial e) N 0 fu (by omega) (by show N < 100000; omega)
  unfold FT_isWell
  rw [jn_eq]
  try dsimp only
  rw [jn_eq]
  try dsimp only
  rw [jn_eq]
  try dsimp only
  rw [jn_eq]
  try dsimp only
  rw [jn_eq]
  try dsimp only
  rw [gd_t (Or.inr rfl), gd_t (Or.inl rfl)]
  exact (l1.1 (fun _ _ _ => trivial)).trans (l2.1 (fun _ _ _ => trivial))
end WL1
